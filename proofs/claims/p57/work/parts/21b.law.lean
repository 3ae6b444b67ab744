section JS
set_option maxRecDepth 20000 in
theorem d_176_0 : decode (js_b 176) 0 = .ok (.aload_n 0, 1) := by decide +kernel
set_option maxRecDepth 20000 in
theorem d_176_1 : decode (js_b 176) 1 = .ok (.iload_n 1, 1) := by decide +kernel
set_option maxRecDepth 20000 in
theorem d_176_2 : decode (js_b 176) 2 = .ok (.iload_n 2, 1) := by decide +kernel
set_option maxRecDepth 20000 in
theorem d_176_3 : decode (js_b 176) 3 = .ok (.invokestatic 175, 3) := by decide +kernel
set_option maxRecDepth 20000 in
theorem d_176_6 : decode (js_b 176) 6 = .ok (.istore 4, 2) := by decide +kernel
set_option maxRecDepth 20000 in
theorem d_176_8 : decode (js_b 176) 8 = .ok (.aload_n 0, 1) := by decide +kernel
set_option maxRecDepth 20000 in
theorem d_176_9 : decode (js_b 176) 9 = .ok (.iload_n 1, 1) := by decide +kernel
set_option maxRecDepth 20000 in
theorem d_176_10 : decode (js_b 176) 10 = .ok (.iload_n 2, 1) := by decide +kernel
set_option maxRecDepth 20000 in
theorem d_176_11 : decode (js_b 176) 11 = .ok (.iload_n 3, 1) := by decide +kernel
set_option maxRecDepth 20000 in
theorem d_176_12 : decode (js_b 176) 12 = .ok (.invokestatic 178, 3) := by decide +kernel
set_option maxRecDepth 20000 in
theorem d_176_15 : decode (js_b 176) 15 = .ok (.istore 5, 2) := by decide +kernel
set_option maxRecDepth 20000 in
theorem d_176_17 : decode (js_b 176) 17 = .ok (.iload 4, 2) := by decide +kernel
set_option maxRecDepth 20000 in
theorem d_176_19 : decode (js_b 176) 19 = .ok (.ifCond .lt 8, 3) := by decide +kernel
set_option maxRecDepth 20000 in
theorem d_176_22 : decode (js_b 176) 22 = .ok (.iload 5, 2) := by decide +kernel
set_option maxRecDepth 20000 in
theorem d_176_24 : decode (js_b 176) 24 = .ok (.ifCond .ge 7, 3) := by decide +kernel
set_option maxRecDepth 20000 in
theorem d_176_27 : decode (js_b 176) 27 = .ok (.iconst 0, 1) := by decide +kernel
set_option maxRecDepth 20000 in
theorem d_176_28 : decode (js_b 176) 28 = .ok (.goto 32, 3) := by decide +kernel
set_option maxRecDepth 20000 in
theorem d_176_31 : decode (js_b 176) 31 = .ok (.aload_n 0, 1) := by decide +kernel
set_option maxRecDepth 20000 in
theorem d_176_32 : decode (js_b 176) 32 = .ok (.iload 4, 2) := by decide +kernel
set_option maxRecDepth 20000 in
theorem d_176_34 : decode (js_b 176) 34 = .ok (.iload_n 3, 1) := by decide +kernel
set_option maxRecDepth 20000 in
theorem d_176_35 : decode (js_b 176) 35 = .ok (.invokevirtual 36, 3) := by decide +kernel
set_option maxRecDepth 20000 in
theorem d_176_38 : decode (js_b 176) 38 = .ok (.aload_n 0, 1) := by decide +kernel
set_option maxRecDepth 20000 in
theorem d_176_39 : decode (js_b 176) 39 = .ok (.iload 5, 2) := by decide +kernel
set_option maxRecDepth 20000 in
theorem d_176_41 : decode (js_b 176) 41 = .ok (.iload_n 3, 1) := by decide +kernel
set_option maxRecDepth 20000 in
theorem d_176_42 : decode (js_b 176) 42 = .ok (.iconst 2, 1) := by decide +kernel
set_option maxRecDepth 20000 in
theorem d_176_43 : decode (js_b 176) 43 = .ok (.iadd, 1) := by decide +kernel
set_option maxRecDepth 20000 in
theorem d_176_44 : decode (js_b 176) 44 = .ok (.iconst 4, 1) := by decide +kernel
set_option maxRecDepth 20000 in
theorem d_176_45 : decode (js_b 176) 45 = .ok (.irem, 1) := by decide +kernel
set_option maxRecDepth 20000 in
theorem d_176_46 : decode (js_b 176) 46 = .ok (.invokevirtual 36, 3) := by decide +kernel
set_option maxRecDepth 20000 in
theorem d_176_49 : decode (js_b 176) 49 = .ok (.ixor, 1) := by decide +kernel
set_option maxRecDepth 20000 in
theorem d_176_50 : decode (js_b 176) 50 = .ok (.bipush 15, 2) := by decide +kernel
set_option maxRecDepth 20000 in
theorem d_176_52 : decode (js_b 176) 52 = .ok (.if_icmp .ne 7, 3) := by decide +kernel
set_option maxRecDepth 20000 in
theorem d_176_55 : decode (js_b 176) 55 = .ok (.iconst 1, 1) := by decide +kernel
set_option maxRecDepth 20000 in
theorem d_176_56 : decode (js_b 176) 56 = .ok (.goto 4, 3) := by decide +kernel
set_option maxRecDepth 20000 in
theorem d_176_59 : decode (js_b 176) 59 = .ok (.iconst (-1), 1) := by decide +kernel
set_option maxRecDepth 20000 in
theorem d_176_60 : decode (js_b 176) 60 = .ok (.ireturn, 1) := by decide +kernel
theorem ki_176_15 : js_OkG 176 15 (o_is 5 17) := js_St.okG (st_istore (Nat.le_of_ble_eq_true rfl) d_176_15) (fun _ _ _ _ _ => rfl)
theorem ki_176_12 : js_OkG 176 12 (o_cI 169 4 0 15) := og_sIP rfl rfl kB_176_169 rfl kw_775 kw_776 d_176_12
theorem ki_176_11 : js_OkG 176 11 (o_il 3 12) := js_St.okG (st_iloadn rfl d_176_11) (fun _ _ _ _ _ => rfl)
theorem ki_176_10 : js_OkG 176 10 (o_il 2 11) := js_St.okG (st_iloadn rfl d_176_10) (fun _ _ _ _ _ => rfl)
theorem ki_176_9 : js_OkG 176 9 (o_il 1 10) := js_St.okG (st_iloadn rfl d_176_9) (fun _ _ _ _ _ => rfl)
theorem ki_176_8 : js_OkG 176 8 (o_al 0 9) := js_St.okG (st_aloadn rfl d_176_8) (fun _ _ _ _ _ => rfl)
theorem ki_176_6 : js_OkG 176 6 (o_is 4 8) := js_St.okG (st_istore (Nat.le_of_ble_eq_true rfl) d_176_6) (fun _ _ _ _ _ => rfl)
theorem ki_176_3 : js_OkG 176 3 (o_cI 147 3 0 6) := og_sIW rfl rfl kB_176_147 rfl kw_738 kw_739 d_176_3
theorem ki_176_2 : js_OkG 176 2 (o_il 2 3) := js_St.okG (st_iloadn rfl d_176_2) (fun _ _ _ _ _ => rfl)
theorem ki_176_1 : js_OkG 176 1 (o_il 1 2) := js_St.okG (st_iloadn rfl d_176_1) (fun _ _ _ _ _ => rfl)
theorem ki_176_0 : js_OkG 176 0 (o_al 0 1) := js_St.okG (st_aloadn rfl d_176_0) (fun _ _ _ _ _ => rfl)
theorem ki_176_31 : js_OkG 176 31 (o_al 0 32) := js_St.okG (st_aloadn rfl d_176_31) (fun _ _ _ _ _ => rfl)
theorem ki_176_28 : js_OkG 176 28 (o_go 60) := js_St.okG (st_goto (by decide) d_176_28) (fun _ _ _ _ _ => rfl)
theorem ki_176_27 : js_OkG 176 27 (o_ic 0 28) := js_St.okG (st_iconst rfl d_176_27) (fun _ _ _ _ _ => rfl)
theorem ki_176_24 : js_OkG 176 24 (o_ge 31 27) := js_St.okG (st_ifge (by decide) d_176_24) (fun _ _ _ _ _ => rfl)
theorem ki_176_22 : js_OkG 176 22 (o_il 5 24) := js_St.okG (st_iload d_176_22) (fun _ _ _ _ _ => rfl)
theorem ki_176_19 : js_OkG 176 19 (o_lt 27 22) := js_St.okG (st_iflt (by decide) d_176_19) (fun _ _ _ _ _ => rfl)
theorem ki_176_17 : js_OkG 176 17 (o_il 4 19) := js_St.okG (st_iload d_176_17) (fun _ _ _ _ _ => rfl)
theorem ki_176_46 : js_OkG 176 46 (o_cI 68 3 8 49) := og_cI (site_V kk_176_68 (by decide) kw_658 kw_659 kw_660 (fun t ht => by cases ht; exact Or.inl ⟨by decide, _, rfl, rfl⟩) d_176_46) rfl rfl
theorem ki_176_45 : js_OkG 176 45 (o_rem 46) := js_St.okG (st_irem d_176_45) (fun _ _ _ _ _ => rfl)
theorem ki_176_44 : js_OkG 176 44 (o_ic 4 45) := js_St.okG (st_iconst rfl d_176_44) (fun _ _ _ _ _ => rfl)
theorem ki_176_43 : js_OkG 176 43 (o_b2 (fun x y => x + y) 44) := js_St.okG (st_iadd d_176_43) (fun _ _ _ _ _ => rfl)
theorem ki_176_42 : js_OkG 176 42 (o_ic 2 43) := js_St.okG (st_iconst rfl d_176_42) (fun _ _ _ _ _ => rfl)
theorem ki_176_41 : js_OkG 176 41 (o_il 3 42) := js_St.okG (st_iloadn rfl d_176_41) (fun _ _ _ _ _ => rfl)
theorem ki_176_39 : js_OkG 176 39 (o_il 5 41) := js_St.okG (st_iload d_176_39) (fun _ _ _ _ _ => rfl)
theorem ki_176_38 : js_OkG 176 38 (o_al 0 39) := js_St.okG (st_aloadn rfl d_176_38) (fun _ _ _ _ _ => rfl)
theorem ki_176_35 : js_OkG 176 35 (o_cI 68 3 8 38) := og_cI (site_V kk_176_68 (by decide) kw_658 kw_659 kw_660 (fun t ht => by cases ht; exact Or.inl ⟨by decide, _, rfl, rfl⟩) d_176_35) rfl rfl
theorem ki_176_34 : js_OkG 176 34 (o_il 3 35) := js_St.okG (st_iloadn rfl d_176_34) (fun _ _ _ _ _ => rfl)
theorem ki_176_32 : js_OkG 176 32 (o_il 4 34) := js_St.okG (st_iload d_176_32) (fun _ _ _ _ _ => rfl)
theorem ki_176_60 : js_OkG 176 60 (o_rI) := og_rI rfl d_176_60
theorem ki_176_59 : js_OkG 176 59 (o_ic (-1) 60) := js_St.okG (st_iconst rfl d_176_59) (fun _ _ _ _ _ => rfl)
theorem ki_176_56 : js_OkG 176 56 (o_go 60) := js_St.okG (st_goto (by decide) d_176_56) (fun _ _ _ _ _ => rfl)
theorem ki_176_55 : js_OkG 176 55 (o_ic 1 56) := js_St.okG (st_iconst rfl d_176_55) (fun _ _ _ _ _ => rfl)
theorem ki_176_52 : js_OkG 176 52 (o_cne 59 55) := js_St.okG (st_icne (by decide) d_176_52) (fun _ _ _ _ _ => rfl)
theorem ki_176_50 : js_OkG 176 50 (o_ic 15 52) := js_St.okG (st_bipush rfl d_176_50) (fun _ _ _ _ _ => rfl)
theorem ki_176_49 : js_OkG 176 49 (o_b2 (fun x y => x ^^^ y) 50) := js_St.okG (st_ixor d_176_49) (fun _ _ _ _ _ => rfl)
set_option maxRecDepth 20000 in
theorem mk_176 : js_mokG 176 := jk_tab (fun _ => js_St.okG st_bad (fun _ _ _ _ _ => rfl)) (show jk_all (js_OkG 176) 0 tb_176 from ⟨⟨ki_176_0, ⟨ki_176_1, ⟨ki_176_2, ⟨ki_176_3, ⟨kbadG, ⟨kbadG, ⟨ki_176_6, ⟨kbadG, ⟨ki_176_8, ⟨ki_176_9, ⟨ki_176_10, ⟨ki_176_11, ⟨ki_176_12, ⟨kbadG, ⟨kbadG, ⟨ki_176_15, trivial⟩⟩⟩⟩⟩⟩⟩⟩⟩⟩⟩⟩⟩⟩⟩⟩, ⟨⟨kbadG, ⟨ki_176_17, ⟨kbadG, ⟨ki_176_19, ⟨kbadG, ⟨kbadG, ⟨ki_176_22, ⟨kbadG, ⟨ki_176_24, ⟨kbadG, ⟨kbadG, ⟨ki_176_27, ⟨ki_176_28, ⟨kbadG, ⟨kbadG, ⟨ki_176_31, trivial⟩⟩⟩⟩⟩⟩⟩⟩⟩⟩⟩⟩⟩⟩⟩⟩, ⟨⟨ki_176_32, ⟨kbadG, ⟨ki_176_34, ⟨ki_176_35, ⟨kbadG, ⟨kbadG, ⟨ki_176_38, ⟨ki_176_39, ⟨kbadG, ⟨ki_176_41, ⟨ki_176_42, ⟨ki_176_43, ⟨ki_176_44, ⟨ki_176_45, ⟨ki_176_46, ⟨kbadG, trivial⟩⟩⟩⟩⟩⟩⟩⟩⟩⟩⟩⟩⟩⟩⟩⟩, ⟨⟨kbadG, ⟨ki_176_49, ⟨ki_176_50, ⟨kbadG, ⟨ki_176_52, ⟨kbadG, ⟨kbadG, ⟨ki_176_55, ⟨ki_176_56, ⟨kbadG, ⟨kbadG, ⟨ki_176_59, ⟨ki_176_60, trivial⟩⟩⟩⟩⟩⟩⟩⟩⟩⟩⟩⟩⟩, trivial⟩⟩⟩⟩)
set_option maxRecDepth 20000 in
theorem d_177_0 : decode (js_b 177) 0 = .ok (.iconst 0, 1) := by decide +kernel
set_option maxRecDepth 20000 in
theorem d_177_1 : decode (js_b 177) 1 = .ok (.istore 4, 2) := by decide +kernel
set_option maxRecDepth 20000 in
theorem d_177_3 : decode (js_b 177) 3 = .ok (.iconst 0, 1) := by decide +kernel
set_option maxRecDepth 20000 in
theorem d_177_4 : decode (js_b 177) 4 = .ok (.istore 5, 2) := by decide +kernel
set_option maxRecDepth 20000 in
theorem d_177_6 : decode (js_b 177) 6 = .ok (.iload 5, 2) := by decide +kernel
set_option maxRecDepth 20000 in
theorem d_177_8 : decode (js_b 177) 8 = .ok (.iconst 4, 1) := by decide +kernel
set_option maxRecDepth 20000 in
theorem d_177_9 : decode (js_b 177) 9 = .ok (.if_icmp .ge 31, 3) := by decide +kernel
set_option maxRecDepth 20000 in
theorem d_177_12 : decode (js_b 177) 12 = .ok (.iload 4, 2) := by decide +kernel
set_option maxRecDepth 20000 in
theorem d_177_14 : decode (js_b 177) 14 = .ok (.aload_n 0, 1) := by decide +kernel
set_option maxRecDepth 20000 in
theorem d_177_15 : decode (js_b 177) 15 = .ok (.iload_n 1, 1) := by decide +kernel
set_option maxRecDepth 20000 in
theorem d_177_16 : decode (js_b 177) 16 = .ok (.iload_n 2, 1) := by decide +kernel
set_option maxRecDepth 20000 in
theorem d_177_17 : decode (js_b 177) 17 = .ok (.iload 5, 2) := by decide +kernel
set_option maxRecDepth 20000 in
theorem d_177_19 : decode (js_b 177) 19 = .ok (.invokestatic 198, 3) := by decide +kernel
set_option maxRecDepth 20000 in
theorem d_177_22 : decode (js_b 177) 22 = .ok (.iload_n 3, 1) := by decide +kernel
set_option maxRecDepth 20000 in
theorem d_177_23 : decode (js_b 177) 23 = .ok (.if_icmp .ne 7, 3) := by decide +kernel
set_option maxRecDepth 20000 in
theorem d_177_26 : decode (js_b 177) 26 = .ok (.iconst 1, 1) := by decide +kernel
set_option maxRecDepth 20000 in
theorem d_177_27 : decode (js_b 177) 27 = .ok (.goto 4, 3) := by decide +kernel
set_option maxRecDepth 20000 in
theorem d_177_30 : decode (js_b 177) 30 = .ok (.iconst 0, 1) := by decide +kernel
set_option maxRecDepth 20000 in
theorem d_177_31 : decode (js_b 177) 31 = .ok (.iadd, 1) := by decide +kernel
set_option maxRecDepth 20000 in
theorem d_177_32 : decode (js_b 177) 32 = .ok (.istore 4, 2) := by decide +kernel
set_option maxRecDepth 20000 in
theorem d_177_34 : decode (js_b 177) 34 = .ok (.iinc 5 1, 3) := by decide +kernel
set_option maxRecDepth 20000 in
theorem d_177_37 : decode (js_b 177) 37 = .ok (.goto (-31), 3) := by decide +kernel
set_option maxRecDepth 20000 in
theorem d_177_40 : decode (js_b 177) 40 = .ok (.iload 4, 2) := by decide +kernel
set_option maxRecDepth 20000 in
theorem d_177_42 : decode (js_b 177) 42 = .ok (.ireturn, 1) := by decide +kernel
theorem ki_177_15 : js_OkG 177 15 (o_il 1 16) := js_St.okG (st_iloadn rfl d_177_15) (fun _ _ _ _ _ => rfl)
theorem ki_177_14 : js_OkG 177 14 (o_al 0 15) := js_St.okG (st_aloadn rfl d_177_14) (fun _ _ _ _ _ => rfl)
theorem ki_177_12 : js_OkG 177 12 (o_il 4 14) := js_St.okG (st_iload d_177_12) (fun _ _ _ _ _ => rfl)
theorem ki_177_9 : js_OkG 177 9 (o_cge 40 12) := js_St.okG (st_icge (by decide) d_177_9) (fun _ _ _ _ _ => rfl)
theorem ki_177_8 : js_OkG 177 8 (o_ic 4 9) := js_St.okG (st_iconst rfl d_177_8) (fun _ _ _ _ _ => rfl)
theorem ki_177_6 : js_OkG 177 6 (o_il 5 8) := js_St.okG (st_iload d_177_6) (fun _ _ _ _ _ => rfl)
theorem ki_177_4 : js_OkG 177 4 (o_is 5 6) := js_St.okG (st_istore (Nat.le_of_ble_eq_true rfl) d_177_4) (fun _ _ _ _ _ => rfl)
theorem ki_177_3 : js_OkG 177 3 (o_ic 0 4) := js_St.okG (st_iconst rfl d_177_3) (fun _ _ _ _ _ => rfl)
theorem ki_177_1 : js_OkG 177 1 (o_is 4 3) := js_St.okG (st_istore (Nat.le_of_ble_eq_true rfl) d_177_1) (fun _ _ _ _ _ => rfl)
theorem ki_177_0 : js_OkG 177 0 (o_ic 0 1) := js_St.okG (st_iconst rfl d_177_0) (fun _ _ _ _ _ => rfl)
theorem ki_177_31 : js_OkG 177 31 (o_b2 (fun x y => x + y) 32) := js_St.okG (st_iadd d_177_31) (fun _ _ _ _ _ => rfl)
theorem ki_177_30 : js_OkG 177 30 (o_ic 0 31) := js_St.okG (st_iconst rfl d_177_30) (fun _ _ _ _ _ => rfl)
theorem ki_177_27 : js_OkG 177 27 (o_go 31) := js_St.okG (st_goto (by decide) d_177_27) (fun _ _ _ _ _ => rfl)
theorem ki_177_26 : js_OkG 177 26 (o_ic 1 27) := js_St.okG (st_iconst rfl d_177_26) (fun _ _ _ _ _ => rfl)
theorem ki_177_23 : js_OkG 177 23 (o_cne 30 26) := js_St.okG (st_icne (by decide) d_177_23) (fun _ _ _ _ _ => rfl)
theorem ki_177_22 : js_OkG 177 22 (o_il 3 23) := js_St.okG (st_iloadn rfl d_177_22) (fun _ _ _ _ _ => rfl)
theorem ki_177_19 : js_OkG 177 19 (o_cI 176 4 0 22) := og_sIP rfl rfl kB_177_176 rfl kw_785 kw_786 d_177_19
theorem ki_177_17 : js_OkG 177 17 (o_il 5 19) := js_St.okG (st_iload d_177_17) (fun _ _ _ _ _ => rfl)
theorem ki_177_16 : js_OkG 177 16 (o_il 2 17) := js_St.okG (st_iloadn rfl d_177_16) (fun _ _ _ _ _ => rfl)
theorem ki_177_42 : js_OkG 177 42 (o_rI) := og_rI rfl d_177_42
theorem ki_177_40 : js_OkG 177 40 (o_il 4 42) := js_St.okG (st_iload d_177_40) (fun _ _ _ _ _ => rfl)
theorem ki_177_37 : js_OkG 177 37 (o_go 6) := js_St.okG (st_goto (by decide) d_177_37) (fun _ _ _ _ _ => rfl)
theorem ki_177_34 : js_OkG 177 34 (o_inc 5 1 37) := js_St.okG (st_iinc rfl (Nat.le_of_ble_eq_true rfl) d_177_34) (fun _ _ _ _ _ => rfl)
theorem ki_177_32 : js_OkG 177 32 (o_is 4 34) := js_St.okG (st_istore (Nat.le_of_ble_eq_true rfl) d_177_32) (fun _ _ _ _ _ => rfl)
set_option maxRecDepth 20000 in
theorem mk_177 : js_mokG 177 := jk_tab (fun _ => js_St.okG st_bad (fun _ _ _ _ _ => rfl)) (show jk_all (js_OkG 177) 0 tb_177 from ⟨⟨ki_177_0, ⟨ki_177_1, ⟨kbadG, ⟨ki_177_3, ⟨ki_177_4, ⟨kbadG, ⟨ki_177_6, ⟨kbadG, ⟨ki_177_8, ⟨ki_177_9, ⟨kbadG, ⟨kbadG, ⟨ki_177_12, ⟨kbadG, ⟨ki_177_14, ⟨ki_177_15, trivial⟩⟩⟩⟩⟩⟩⟩⟩⟩⟩⟩⟩⟩⟩⟩⟩, ⟨⟨ki_177_16, ⟨ki_177_17, ⟨kbadG, ⟨ki_177_19, ⟨kbadG, ⟨kbadG, ⟨ki_177_22, ⟨ki_177_23, ⟨kbadG, ⟨kbadG, ⟨ki_177_26, ⟨ki_177_27, ⟨kbadG, ⟨kbadG, ⟨ki_177_30, ⟨ki_177_31, trivial⟩⟩⟩⟩⟩⟩⟩⟩⟩⟩⟩⟩⟩⟩⟩⟩, ⟨⟨ki_177_32, ⟨kbadG, ⟨ki_177_34, ⟨kbadG, ⟨kbadG, ⟨ki_177_37, ⟨kbadG, ⟨kbadG, ⟨ki_177_40, ⟨kbadG, ⟨ki_177_42, trivial⟩⟩⟩⟩⟩⟩⟩⟩⟩⟩⟩, trivial⟩⟩⟩)
set_option maxRecDepth 20000 in
theorem d_178_0 : decode (js_b 178) 0 = .ok (.iconst 0, 1) := by decide +kernel
set_option maxRecDepth 20000 in
theorem d_178_1 : decode (js_b 178) 1 = .ok (.istore_n 2, 1) := by decide +kernel
set_option maxRecDepth 20000 in
theorem d_178_2 : decode (js_b 178) 2 = .ok (.iconst 0, 1) := by decide +kernel
set_option maxRecDepth 20000 in
theorem d_178_3 : decode (js_b 178) 3 = .ok (.istore_n 3, 1) := by decide +kernel
set_option maxRecDepth 20000 in
theorem d_178_4 : decode (js_b 178) 4 = .ok (.iload_n 3, 1) := by decide +kernel
set_option maxRecDepth 20000 in
theorem d_178_5 : decode (js_b 178) 5 = .ok (.bipush 64, 2) := by decide +kernel
set_option maxRecDepth 20000 in
theorem d_178_7 : decode (js_b 178) 7 = .ok (.if_icmp .ge 59, 3) := by decide +kernel
set_option maxRecDepth 20000 in
theorem d_178_10 : decode (js_b 178) 10 = .ok (.iload_n 2, 1) := by decide +kernel
set_option maxRecDepth 20000 in
theorem d_178_11 : decode (js_b 178) 11 = .ok (.aload_n 0, 1) := by decide +kernel
set_option maxRecDepth 20000 in
theorem d_178_12 : decode (js_b 178) 12 = .ok (.iload_n 3, 1) := by decide +kernel
set_option maxRecDepth 20000 in
theorem d_178_13 : decode (js_b 178) 13 = .ok (.bipush 8, 2) := by decide +kernel
set_option maxRecDepth 20000 in
theorem d_178_15 : decode (js_b 178) 15 = .ok (.idiv, 1) := by decide +kernel
set_option maxRecDepth 20000 in
theorem d_178_16 : decode (js_b 178) 16 = .ok (.iload_n 3, 1) := by decide +kernel
set_option maxRecDepth 20000 in
theorem d_178_17 : decode (js_b 178) 17 = .ok (.bipush 8, 2) := by decide +kernel
set_option maxRecDepth 20000 in
theorem d_178_19 : decode (js_b 178) 19 = .ok (.irem, 1) := by decide +kernel
set_option maxRecDepth 20000 in
theorem d_178_20 : decode (js_b 178) 20 = .ok (.iconst 1, 1) := by decide +kernel
set_option maxRecDepth 20000 in
theorem d_178_21 : decode (js_b 178) 21 = .ok (.invokestatic 198, 3) := by decide +kernel
set_option maxRecDepth 20000 in
theorem d_178_24 : decode (js_b 178) 24 = .ok (.iload_n 1, 1) := by decide +kernel
set_option maxRecDepth 20000 in
theorem d_178_25 : decode (js_b 178) 25 = .ok (.if_icmp .ne 7, 3) := by decide +kernel
set_option maxRecDepth 20000 in
theorem d_178_28 : decode (js_b 178) 28 = .ok (.iconst 1, 1) := by decide +kernel
set_option maxRecDepth 20000 in
theorem d_178_29 : decode (js_b 178) 29 = .ok (.goto 4, 3) := by decide +kernel
set_option maxRecDepth 20000 in
theorem d_178_32 : decode (js_b 178) 32 = .ok (.iconst 0, 1) := by decide +kernel
set_option maxRecDepth 20000 in
theorem d_178_33 : decode (js_b 178) 33 = .ok (.iadd, 1) := by decide +kernel
set_option maxRecDepth 20000 in
theorem d_178_34 : decode (js_b 178) 34 = .ok (.istore_n 2, 1) := by decide +kernel
set_option maxRecDepth 20000 in
theorem d_178_35 : decode (js_b 178) 35 = .ok (.iload_n 2, 1) := by decide +kernel
set_option maxRecDepth 20000 in
theorem d_178_36 : decode (js_b 178) 36 = .ok (.aload_n 0, 1) := by decide +kernel
set_option maxRecDepth 20000 in
theorem d_178_37 : decode (js_b 178) 37 = .ok (.iload_n 3, 1) := by decide +kernel
set_option maxRecDepth 20000 in
theorem d_178_38 : decode (js_b 178) 38 = .ok (.bipush 8, 2) := by decide +kernel
set_option maxRecDepth 20000 in
theorem d_178_40 : decode (js_b 178) 40 = .ok (.idiv, 1) := by decide +kernel
set_option maxRecDepth 20000 in
theorem d_178_41 : decode (js_b 178) 41 = .ok (.iload_n 3, 1) := by decide +kernel
set_option maxRecDepth 20000 in
theorem d_178_42 : decode (js_b 178) 42 = .ok (.bipush 8, 2) := by decide +kernel
set_option maxRecDepth 20000 in
theorem d_178_44 : decode (js_b 178) 44 = .ok (.irem, 1) := by decide +kernel
set_option maxRecDepth 20000 in
theorem d_178_45 : decode (js_b 178) 45 = .ok (.iconst 2, 1) := by decide +kernel
set_option maxRecDepth 20000 in
theorem d_178_46 : decode (js_b 178) 46 = .ok (.invokestatic 198, 3) := by decide +kernel
set_option maxRecDepth 20000 in
theorem d_178_49 : decode (js_b 178) 49 = .ok (.iload_n 1, 1) := by decide +kernel
set_option maxRecDepth 20000 in
theorem d_178_50 : decode (js_b 178) 50 = .ok (.if_icmp .ne 7, 3) := by decide +kernel
set_option maxRecDepth 20000 in
theorem d_178_53 : decode (js_b 178) 53 = .ok (.iconst 1, 1) := by decide +kernel
set_option maxRecDepth 20000 in
theorem d_178_54 : decode (js_b 178) 54 = .ok (.goto 4, 3) := by decide +kernel
set_option maxRecDepth 20000 in
theorem d_178_57 : decode (js_b 178) 57 = .ok (.iconst 0, 1) := by decide +kernel
set_option maxRecDepth 20000 in
theorem d_178_58 : decode (js_b 178) 58 = .ok (.iadd, 1) := by decide +kernel
set_option maxRecDepth 20000 in
theorem d_178_59 : decode (js_b 178) 59 = .ok (.istore_n 2, 1) := by decide +kernel
set_option maxRecDepth 20000 in
theorem d_178_60 : decode (js_b 178) 60 = .ok (.iinc 3 1, 3) := by decide +kernel
set_option maxRecDepth 20000 in
theorem d_178_63 : decode (js_b 178) 63 = .ok (.goto (-59), 3) := by decide +kernel
set_option maxRecDepth 20000 in
theorem d_178_66 : decode (js_b 178) 66 = .ok (.iload_n 2, 1) := by decide +kernel
set_option maxRecDepth 20000 in
theorem d_178_67 : decode (js_b 178) 67 = .ok (.ireturn, 1) := by decide +kernel
theorem ki_178_15 : js_OkG 178 15 (o_div 16) := js_St.okG (st_idiv d_178_15) (fun _ _ _ _ _ => rfl)
theorem ki_178_13 : js_OkG 178 13 (o_ic 8 15) := js_St.okG (st_bipush rfl d_178_13) (fun _ _ _ _ _ => rfl)
theorem ki_178_12 : js_OkG 178 12 (o_il 3 13) := js_St.okG (st_iloadn rfl d_178_12) (fun _ _ _ _ _ => rfl)
theorem ki_178_11 : js_OkG 178 11 (o_al 0 12) := js_St.okG (st_aloadn rfl d_178_11) (fun _ _ _ _ _ => rfl)
theorem ki_178_10 : js_OkG 178 10 (o_il 2 11) := js_St.okG (st_iloadn rfl d_178_10) (fun _ _ _ _ _ => rfl)
theorem ki_178_7 : js_OkG 178 7 (o_cge 66 10) := js_St.okG (st_icge (by decide) d_178_7) (fun _ _ _ _ _ => rfl)
theorem ki_178_5 : js_OkG 178 5 (o_ic 64 7) := js_St.okG (st_bipush rfl d_178_5) (fun _ _ _ _ _ => rfl)
theorem ki_178_4 : js_OkG 178 4 (o_il 3 5) := js_St.okG (st_iloadn rfl d_178_4) (fun _ _ _ _ _ => rfl)
theorem ki_178_3 : js_OkG 178 3 (o_is 3 4) := js_St.okG (st_istoren rfl (Nat.le_of_ble_eq_true rfl) d_178_3) (fun _ _ _ _ _ => rfl)
theorem ki_178_2 : js_OkG 178 2 (o_ic 0 3) := js_St.okG (st_iconst rfl d_178_2) (fun _ _ _ _ _ => rfl)
theorem ki_178_1 : js_OkG 178 1 (o_is 2 2) := js_St.okG (st_istoren rfl (Nat.le_of_ble_eq_true rfl) d_178_1) (fun _ _ _ _ _ => rfl)
theorem ki_178_0 : js_OkG 178 0 (o_ic 0 1) := js_St.okG (st_iconst rfl d_178_0) (fun _ _ _ _ _ => rfl)
theorem ki_178_29 : js_OkG 178 29 (o_go 33) := js_St.okG (st_goto (by decide) d_178_29) (fun _ _ _ _ _ => rfl)
theorem ki_178_28 : js_OkG 178 28 (o_ic 1 29) := js_St.okG (st_iconst rfl d_178_28) (fun _ _ _ _ _ => rfl)
theorem ki_178_25 : js_OkG 178 25 (o_cne 32 28) := js_St.okG (st_icne (by decide) d_178_25) (fun _ _ _ _ _ => rfl)
theorem ki_178_24 : js_OkG 178 24 (o_il 1 25) := js_St.okG (st_iloadn rfl d_178_24) (fun _ _ _ _ _ => rfl)
theorem ki_178_21 : js_OkG 178 21 (o_cI 176 4 0 24) := og_sIP rfl rfl kB_178_176 rfl kw_785 kw_786 d_178_21
theorem ki_178_20 : js_OkG 178 20 (o_ic 1 21) := js_St.okG (st_iconst rfl d_178_20) (fun _ _ _ _ _ => rfl)
theorem ki_178_19 : js_OkG 178 19 (o_rem 20) := js_St.okG (st_irem d_178_19) (fun _ _ _ _ _ => rfl)
theorem ki_178_17 : js_OkG 178 17 (o_ic 8 19) := js_St.okG (st_bipush rfl d_178_17) (fun _ _ _ _ _ => rfl)
theorem ki_178_16 : js_OkG 178 16 (o_il 3 17) := js_St.okG (st_iloadn rfl d_178_16) (fun _ _ _ _ _ => rfl)
theorem ki_178_46 : js_OkG 178 46 (o_cI 176 4 0 49) := og_sIP rfl rfl kB_178_176 rfl kw_785 kw_786 d_178_46
theorem ki_178_45 : js_OkG 178 45 (o_ic 2 46) := js_St.okG (st_iconst rfl d_178_45) (fun _ _ _ _ _ => rfl)
theorem ki_178_44 : js_OkG 178 44 (o_rem 45) := js_St.okG (st_irem d_178_44) (fun _ _ _ _ _ => rfl)
theorem ki_178_42 : js_OkG 178 42 (o_ic 8 44) := js_St.okG (st_bipush rfl d_178_42) (fun _ _ _ _ _ => rfl)
theorem ki_178_41 : js_OkG 178 41 (o_il 3 42) := js_St.okG (st_iloadn rfl d_178_41) (fun _ _ _ _ _ => rfl)
theorem ki_178_40 : js_OkG 178 40 (o_div 41) := js_St.okG (st_idiv d_178_40) (fun _ _ _ _ _ => rfl)
theorem ki_178_38 : js_OkG 178 38 (o_ic 8 40) := js_St.okG (st_bipush rfl d_178_38) (fun _ _ _ _ _ => rfl)
theorem ki_178_37 : js_OkG 178 37 (o_il 3 38) := js_St.okG (st_iloadn rfl d_178_37) (fun _ _ _ _ _ => rfl)
theorem ki_178_36 : js_OkG 178 36 (o_al 0 37) := js_St.okG (st_aloadn rfl d_178_36) (fun _ _ _ _ _ => rfl)
theorem ki_178_35 : js_OkG 178 35 (o_il 2 36) := js_St.okG (st_iloadn rfl d_178_35) (fun _ _ _ _ _ => rfl)
theorem ki_178_34 : js_OkG 178 34 (o_is 2 35) := js_St.okG (st_istoren rfl (Nat.le_of_ble_eq_true rfl) d_178_34) (fun _ _ _ _ _ => rfl)
theorem ki_178_33 : js_OkG 178 33 (o_b2 (fun x y => x + y) 34) := js_St.okG (st_iadd d_178_33) (fun _ _ _ _ _ => rfl)
theorem ki_178_32 : js_OkG 178 32 (o_ic 0 33) := js_St.okG (st_iconst rfl d_178_32) (fun _ _ _ _ _ => rfl)
theorem ki_178_63 : js_OkG 178 63 (o_go 4) := js_St.okG (st_goto (by decide) d_178_63) (fun _ _ _ _ _ => rfl)
theorem ki_178_60 : js_OkG 178 60 (o_inc 3 1 63) := js_St.okG (st_iinc rfl (Nat.le_of_ble_eq_true rfl) d_178_60) (fun _ _ _ _ _ => rfl)
theorem ki_178_59 : js_OkG 178 59 (o_is 2 60) := js_St.okG (st_istoren rfl (Nat.le_of_ble_eq_true rfl) d_178_59) (fun _ _ _ _ _ => rfl)
theorem ki_178_58 : js_OkG 178 58 (o_b2 (fun x y => x + y) 59) := js_St.okG (st_iadd d_178_58) (fun _ _ _ _ _ => rfl)
theorem ki_178_57 : js_OkG 178 57 (o_ic 0 58) := js_St.okG (st_iconst rfl d_178_57) (fun _ _ _ _ _ => rfl)
theorem ki_178_54 : js_OkG 178 54 (o_go 58) := js_St.okG (st_goto (by decide) d_178_54) (fun _ _ _ _ _ => rfl)
theorem ki_178_53 : js_OkG 178 53 (o_ic 1 54) := js_St.okG (st_iconst rfl d_178_53) (fun _ _ _ _ _ => rfl)
theorem ki_178_50 : js_OkG 178 50 (o_cne 57 53) := js_St.okG (st_icne (by decide) d_178_50) (fun _ _ _ _ _ => rfl)
theorem ki_178_49 : js_OkG 178 49 (o_il 1 50) := js_St.okG (st_iloadn rfl d_178_49) (fun _ _ _ _ _ => rfl)
theorem ki_178_67 : js_OkG 178 67 (o_rI) := og_rI rfl d_178_67
theorem ki_178_66 : js_OkG 178 66 (o_il 2 67) := js_St.okG (st_iloadn rfl d_178_66) (fun _ _ _ _ _ => rfl)
set_option maxRecDepth 20000 in
theorem mk_178 : js_mokG 178 := jk_tab (fun _ => js_St.okG st_bad (fun _ _ _ _ _ => rfl)) (show jk_all (js_OkG 178) 0 tb_178 from ⟨⟨ki_178_0, ⟨ki_178_1, ⟨ki_178_2, ⟨ki_178_3, ⟨ki_178_4, ⟨ki_178_5, ⟨kbadG, ⟨ki_178_7, ⟨kbadG, ⟨kbadG, ⟨ki_178_10, ⟨ki_178_11, ⟨ki_178_12, ⟨ki_178_13, ⟨kbadG, ⟨ki_178_15, trivial⟩⟩⟩⟩⟩⟩⟩⟩⟩⟩⟩⟩⟩⟩⟩⟩, ⟨⟨ki_178_16, ⟨ki_178_17, ⟨kbadG, ⟨ki_178_19, ⟨ki_178_20, ⟨ki_178_21, ⟨kbadG, ⟨kbadG, ⟨ki_178_24, ⟨ki_178_25, ⟨kbadG, ⟨kbadG, ⟨ki_178_28, ⟨ki_178_29, ⟨kbadG, ⟨kbadG, trivial⟩⟩⟩⟩⟩⟩⟩⟩⟩⟩⟩⟩⟩⟩⟩⟩, ⟨⟨ki_178_32, ⟨ki_178_33, ⟨ki_178_34, ⟨ki_178_35, ⟨ki_178_36, ⟨ki_178_37, ⟨ki_178_38, ⟨kbadG, ⟨ki_178_40, ⟨ki_178_41, ⟨ki_178_42, ⟨kbadG, ⟨ki_178_44, ⟨ki_178_45, ⟨ki_178_46, ⟨kbadG, trivial⟩⟩⟩⟩⟩⟩⟩⟩⟩⟩⟩⟩⟩⟩⟩⟩, ⟨⟨kbadG, ⟨ki_178_49, ⟨ki_178_50, ⟨kbadG, ⟨kbadG, ⟨ki_178_53, ⟨ki_178_54, ⟨kbadG, ⟨kbadG, ⟨ki_178_57, ⟨ki_178_58, ⟨ki_178_59, ⟨ki_178_60, ⟨kbadG, ⟨kbadG, ⟨ki_178_63, trivial⟩⟩⟩⟩⟩⟩⟩⟩⟩⟩⟩⟩⟩⟩⟩⟩, ⟨⟨kbadG, ⟨kbadG, ⟨ki_178_66, ⟨ki_178_67, trivial⟩⟩⟩⟩, trivial⟩⟩⟩⟩⟩)
set_option maxRecDepth 20000 in
theorem d_179_0 : decode (js_b 179) 0 = .ok (.bipush 16, 2) := by decide +kernel
set_option maxRecDepth 20000 in
theorem d_179_2 : decode (js_b 179) 2 = .ok (.newarray .boolean, 2) := by decide +kernel
set_option maxRecDepth 20000 in
theorem d_179_4 : decode (js_b 179) 4 = .ok (.astore_n 1, 1) := by decide +kernel
set_option maxRecDepth 20000 in
theorem d_179_5 : decode (js_b 179) 5 = .ok (.iconst 0, 1) := by decide +kernel
set_option maxRecDepth 20000 in
theorem d_179_6 : decode (js_b 179) 6 = .ok (.istore_n 2, 1) := by decide +kernel
set_option maxRecDepth 20000 in
theorem d_179_7 : decode (js_b 179) 7 = .ok (.iconst 0, 1) := by decide +kernel
set_option maxRecDepth 20000 in
theorem d_179_8 : decode (js_b 179) 8 = .ok (.istore_n 3, 1) := by decide +kernel
set_option maxRecDepth 20000 in
theorem d_179_9 : decode (js_b 179) 9 = .ok (.iconst 0, 1) := by decide +kernel
set_option maxRecDepth 20000 in
theorem d_179_10 : decode (js_b 179) 10 = .ok (.istore 4, 2) := by decide +kernel
set_option maxRecDepth 20000 in
theorem d_179_12 : decode (js_b 179) 12 = .ok (.iconst (-1), 1) := by decide +kernel
set_option maxRecDepth 20000 in
theorem d_179_13 : decode (js_b 179) 13 = .ok (.istore 5, 2) := by decide +kernel
set_option maxRecDepth 20000 in
theorem d_179_15 : decode (js_b 179) 15 = .ok (.iload 5, 2) := by decide +kernel
set_option maxRecDepth 20000 in
theorem d_179_17 : decode (js_b 179) 17 = .ok (.bipush 30, 2) := by decide +kernel
set_option maxRecDepth 20000 in
theorem d_179_19 : decode (js_b 179) 19 = .ok (.if_icmp .ge 309, 3) := by decide +kernel
set_option maxRecDepth 20000 in
theorem d_179_22 : decode (js_b 179) 22 = .ok (.aload_n 0, 1) := by decide +kernel
set_option maxRecDepth 20000 in
theorem d_179_23 : decode (js_b 179) 23 = .ok (.iload 5, 2) := by decide +kernel
set_option maxRecDepth 20000 in
theorem d_179_25 : decode (js_b 179) 25 = .ok (.invokevirtual 225, 3) := by decide +kernel
set_option maxRecDepth 20000 in
theorem d_179_28 : decode (js_b 179) 28 = .ok (.istore 6, 2) := by decide +kernel
set_option maxRecDepth 20000 in
theorem d_179_30 : decode (js_b 179) 30 = .ok (.iload_n 3, 1) := by decide +kernel
set_option maxRecDepth 20000 in
theorem d_179_31 : decode (js_b 179) 31 = .ok (.iload 6, 2) := by decide +kernel
set_option maxRecDepth 20000 in
theorem d_179_33 : decode (js_b 179) 33 = .ok (.ifCond .eq 7, 3) := by decide +kernel
set_option maxRecDepth 20000 in
theorem d_179_36 : decode (js_b 179) 36 = .ok (.iconst 1, 1) := by decide +kernel
set_option maxRecDepth 20000 in
theorem d_179_37 : decode (js_b 179) 37 = .ok (.goto 4, 3) := by decide +kernel
set_option maxRecDepth 20000 in
theorem d_179_40 : decode (js_b 179) 40 = .ok (.iconst 0, 1) := by decide +kernel
set_option maxRecDepth 20000 in
theorem d_179_41 : decode (js_b 179) 41 = .ok (.iadd, 1) := by decide +kernel
set_option maxRecDepth 20000 in
theorem d_179_42 : decode (js_b 179) 42 = .ok (.istore_n 3, 1) := by decide +kernel
set_option maxRecDepth 20000 in
theorem d_179_43 : decode (js_b 179) 43 = .ok (.iload 6, 2) := by decide +kernel
set_option maxRecDepth 20000 in
theorem d_179_45 : decode (js_b 179) 45 = .ok (.aload_n 0, 1) := by decide +kernel
set_option maxRecDepth 20000 in
theorem d_179_46 : decode (js_b 179) 46 = .ok (.iload 5, 2) := by decide +kernel
set_option maxRecDepth 20000 in
theorem d_179_48 : decode (js_b 179) 48 = .ok (.invokestatic 228, 3) := by decide +kernel
set_option maxRecDepth 20000 in
theorem d_179_51 : decode (js_b 179) 51 = .ok (.ifCond .lt 7, 3) := by decide +kernel
set_option maxRecDepth 20000 in
theorem d_179_54 : decode (js_b 179) 54 = .ok (.iconst 1, 1) := by decide +kernel
set_option maxRecDepth 20000 in
theorem d_179_55 : decode (js_b 179) 55 = .ok (.goto 4, 3) := by decide +kernel
set_option maxRecDepth 20000 in
theorem d_179_58 : decode (js_b 179) 58 = .ok (.iconst 0, 1) := by decide +kernel
set_option maxRecDepth 20000 in
theorem d_179_59 : decode (js_b 179) 59 = .ok (.if_icmp .ne 61, 3) := by decide +kernel
set_option maxRecDepth 20000 in
theorem d_179_62 : decode (js_b 179) 62 = .ok (.iload 6, 2) := by decide +kernel
set_option maxRecDepth 20000 in
theorem d_179_64 : decode (js_b 179) 64 = .ok (.aload_n 0, 1) := by decide +kernel
set_option maxRecDepth 20000 in
theorem d_179_65 : decode (js_b 179) 65 = .ok (.iload 5, 2) := by decide +kernel
set_option maxRecDepth 20000 in
theorem d_179_67 : decode (js_b 179) 67 = .ok (.invokestatic 230, 3) := by decide +kernel
set_option maxRecDepth 20000 in
theorem d_179_70 : decode (js_b 179) 70 = .ok (.ifCond .lt 7, 3) := by decide +kernel
set_option maxRecDepth 20000 in
theorem d_179_73 : decode (js_b 179) 73 = .ok (.iconst 1, 1) := by decide +kernel
set_option maxRecDepth 20000 in
theorem d_179_74 : decode (js_b 179) 74 = .ok (.goto 4, 3) := by decide +kernel
set_option maxRecDepth 20000 in
theorem d_179_77 : decode (js_b 179) 77 = .ok (.iconst 0, 1) := by decide +kernel
set_option maxRecDepth 20000 in
theorem d_179_78 : decode (js_b 179) 78 = .ok (.if_icmp .ne 42, 3) := by decide +kernel
set_option maxRecDepth 20000 in
theorem d_179_81 : decode (js_b 179) 81 = .ok (.iload 6, 2) := by decide +kernel
set_option maxRecDepth 20000 in
theorem d_179_83 : decode (js_b 179) 83 = .ok (.aload_n 0, 1) := by decide +kernel
set_option maxRecDepth 20000 in
theorem d_179_84 : decode (js_b 179) 84 = .ok (.iload 5, 2) := by decide +kernel
set_option maxRecDepth 20000 in
theorem d_179_86 : decode (js_b 179) 86 = .ok (.invokestatic 232, 3) := by decide +kernel
set_option maxRecDepth 20000 in
theorem d_179_89 : decode (js_b 179) 89 = .ok (.ifCond .lt 7, 3) := by decide +kernel
set_option maxRecDepth 20000 in
theorem d_179_92 : decode (js_b 179) 92 = .ok (.iconst 1, 1) := by decide +kernel
set_option maxRecDepth 20000 in
theorem d_179_93 : decode (js_b 179) 93 = .ok (.goto 4, 3) := by decide +kernel
set_option maxRecDepth 20000 in
theorem d_179_96 : decode (js_b 179) 96 = .ok (.iconst 0, 1) := by decide +kernel
set_option maxRecDepth 20000 in
theorem d_179_97 : decode (js_b 179) 97 = .ok (.if_icmp .ne 23, 3) := by decide +kernel
set_option maxRecDepth 20000 in
theorem d_179_100 : decode (js_b 179) 100 = .ok (.iload 6, 2) := by decide +kernel
set_option maxRecDepth 20000 in
theorem d_179_102 : decode (js_b 179) 102 = .ok (.aload_n 0, 1) := by decide +kernel
set_option maxRecDepth 20000 in
theorem d_179_103 : decode (js_b 179) 103 = .ok (.iload 5, 2) := by decide +kernel
set_option maxRecDepth 20000 in
theorem d_179_105 : decode (js_b 179) 105 = .ok (.iconst 0, 1) := by decide +kernel
set_option maxRecDepth 20000 in
theorem d_179_106 : decode (js_b 179) 106 = .ok (.invokestatic 234, 3) := by decide +kernel
set_option maxRecDepth 20000 in
theorem d_179_109 : decode (js_b 179) 109 = .ok (.ifCond .lt 7, 3) := by decide +kernel
set_option maxRecDepth 20000 in
theorem d_179_112 : decode (js_b 179) 112 = .ok (.iconst 1, 1) := by decide +kernel
set_option maxRecDepth 20000 in
theorem d_179_113 : decode (js_b 179) 113 = .ok (.goto 4, 3) := by decide +kernel
set_option maxRecDepth 20000 in
theorem d_179_116 : decode (js_b 179) 116 = .ok (.iconst 0, 1) := by decide +kernel
set_option maxRecDepth 20000 in
theorem d_179_117 : decode (js_b 179) 117 = .ok (.if_icmp .eq 5, 3) := by decide +kernel
set_option maxRecDepth 20000 in
theorem d_179_120 : decode (js_b 179) 120 = .ok (.iconst 0, 1) := by decide +kernel
set_option maxRecDepth 20000 in
theorem d_179_121 : decode (js_b 179) 121 = .ok (.ireturn, 1) := by decide +kernel
set_option maxRecDepth 20000 in
theorem d_179_122 : decode (js_b 179) 122 = .ok (.iconst 0, 1) := by decide +kernel
set_option maxRecDepth 20000 in
theorem d_179_123 : decode (js_b 179) 123 = .ok (.istore 7, 2) := by decide +kernel
set_option maxRecDepth 20000 in
theorem d_179_125 : decode (js_b 179) 125 = .ok (.iload 7, 2) := by decide +kernel
set_option maxRecDepth 20000 in
theorem d_179_127 : decode (js_b 179) 127 = .ok (.iconst 4, 1) := by decide +kernel
set_option maxRecDepth 20000 in
theorem d_179_128 : decode (js_b 179) 128 = .ok (.if_icmp .ge 46, 3) := by decide +kernel
set_option maxRecDepth 20000 in
theorem d_179_131 : decode (js_b 179) 131 = .ok (.iload 6, 2) := by decide +kernel
set_option maxRecDepth 20000 in
theorem d_179_133 : decode (js_b 179) 133 = .ok (.ifCond .eq 41, 3) := by decide +kernel
set_option maxRecDepth 20000 in
theorem d_179_136 : decode (js_b 179) 136 = .ok (.aload_n 0, 1) := by decide +kernel
set_option maxRecDepth 20000 in
theorem d_179_137 : decode (js_b 179) 137 = .ok (.iload 5, 2) := by decide +kernel
set_option maxRecDepth 20000 in
theorem d_179_139 : decode (js_b 179) 139 = .ok (.iload 7, 2) := by decide +kernel
set_option maxRecDepth 20000 in
theorem d_179_141 : decode (js_b 179) 141 = .ok (.invokestatic 234, 3) := by decide +kernel
set_option maxRecDepth 20000 in
theorem d_179_144 : decode (js_b 179) 144 = .ok (.istore 8, 2) := by decide +kernel
set_option maxRecDepth 20000 in
theorem d_179_146 : decode (js_b 179) 146 = .ok (.iload 4, 2) := by decide +kernel
set_option maxRecDepth 20000 in
theorem d_179_148 : decode (js_b 179) 148 = .ok (.aload_n 1, 1) := by decide +kernel
set_option maxRecDepth 20000 in
theorem d_179_149 : decode (js_b 179) 149 = .ok (.iload 8, 2) := by decide +kernel
set_option maxRecDepth 20000 in
theorem d_179_151 : decode (js_b 179) 151 = .ok (.baload, 1) := by decide +kernel
set_option maxRecDepth 20000 in
theorem d_179_152 : decode (js_b 179) 152 = .ok (.ifCond .eq 7, 3) := by decide +kernel
set_option maxRecDepth 20000 in
theorem d_179_155 : decode (js_b 179) 155 = .ok (.iconst 0, 1) := by decide +kernel
set_option maxRecDepth 20000 in
theorem d_179_156 : decode (js_b 179) 156 = .ok (.goto 4, 3) := by decide +kernel
set_option maxRecDepth 20000 in
theorem d_179_159 : decode (js_b 179) 159 = .ok (.iconst 1, 1) := by decide +kernel
set_option maxRecDepth 20000 in
theorem d_179_160 : decode (js_b 179) 160 = .ok (.iadd, 1) := by decide +kernel
set_option maxRecDepth 20000 in
theorem d_179_161 : decode (js_b 179) 161 = .ok (.istore 4, 2) := by decide +kernel
set_option maxRecDepth 20000 in
theorem d_179_163 : decode (js_b 179) 163 = .ok (.aload_n 1, 1) := by decide +kernel
set_option maxRecDepth 20000 in
theorem d_179_164 : decode (js_b 179) 164 = .ok (.iload 8, 2) := by decide +kernel
set_option maxRecDepth 20000 in
theorem d_179_166 : decode (js_b 179) 166 = .ok (.iconst 1, 1) := by decide +kernel
set_option maxRecDepth 20000 in
theorem d_179_167 : decode (js_b 179) 167 = .ok (.bastore, 1) := by decide +kernel
set_option maxRecDepth 20000 in
theorem d_179_168 : decode (js_b 179) 168 = .ok (.iinc 7 1, 3) := by decide +kernel
set_option maxRecDepth 20000 in
theorem d_179_171 : decode (js_b 179) 171 = .ok (.goto (-46), 3) := by decide +kernel
set_option maxRecDepth 20000 in
theorem d_179_174 : decode (js_b 179) 174 = .ok (.iload 6, 2) := by decide +kernel
set_option maxRecDepth 20000 in
theorem d_179_176 : decode (js_b 179) 176 = .ok (.ifCond .eq 88, 3) := by decide +kernel
set_option maxRecDepth 20000 in
theorem d_179_179 : decode (js_b 179) 179 = .ok (.aload_n 0, 1) := by decide +kernel
set_option maxRecDepth 20000 in
theorem d_179_180 : decode (js_b 179) 180 = .ok (.iload 5, 2) := by decide +kernel
set_option maxRecDepth 20000 in
theorem d_179_182 : decode (js_b 179) 182 = .ok (.invokevirtual 40, 3) := by decide +kernel
set_option maxRecDepth 20000 in
theorem d_179_185 : decode (js_b 179) 185 = .ok (.ifCond .ne 79, 3) := by decide +kernel
set_option maxRecDepth 20000 in
theorem d_179_188 : decode (js_b 179) 188 = .ok (.aload_n 0, 1) := by decide +kernel
set_option maxRecDepth 20000 in
theorem d_179_189 : decode (js_b 179) 189 = .ok (.iload_n 2, 1) := by decide +kernel
set_option maxRecDepth 20000 in
theorem d_179_190 : decode (js_b 179) 190 = .ok (.invokestatic 236, 3) := by decide +kernel
set_option maxRecDepth 20000 in
theorem d_179_193 : decode (js_b 179) 193 = .ok (.iload 5, 2) := by decide +kernel
set_option maxRecDepth 20000 in
theorem d_179_195 : decode (js_b 179) 195 = .ok (.if_icmp .ne 61, 3) := by decide +kernel
set_option maxRecDepth 20000 in
theorem d_179_198 : decode (js_b 179) 198 = .ok (.aload_n 0, 1) := by decide +kernel
set_option maxRecDepth 20000 in
theorem d_179_199 : decode (js_b 179) 199 = .ok (.iload 5, 2) := by decide +kernel
set_option maxRecDepth 20000 in
theorem d_179_201 : decode (js_b 179) 201 = .ok (.invokestatic 238, 3) := by decide +kernel
set_option maxRecDepth 20000 in
theorem d_179_204 : decode (js_b 179) 204 = .ok (.bipush (-13), 2) := by decide +kernel
set_option maxRecDepth 20000 in
theorem d_179_206 : decode (js_b 179) 206 = .ok (.if_icmp .ne 50, 3) := by decide +kernel
set_option maxRecDepth 20000 in
theorem d_179_209 : decode (js_b 179) 209 = .ok (.aload_n 0, 1) := by decide +kernel
set_option maxRecDepth 20000 in
theorem d_179_210 : decode (js_b 179) 210 = .ok (.iload 5, 2) := by decide +kernel
set_option maxRecDepth 20000 in
theorem d_179_212 : decode (js_b 179) 212 = .ok (.iconst 0, 1) := by decide +kernel
set_option maxRecDepth 20000 in
theorem d_179_213 : decode (js_b 179) 213 = .ok (.invokestatic 241, 3) := by decide +kernel
set_option maxRecDepth 20000 in
theorem d_179_216 : decode (js_b 179) 216 = .ok (.bipush (-13), 2) := by decide +kernel
set_option maxRecDepth 20000 in
theorem d_179_218 : decode (js_b 179) 218 = .ok (.if_icmp .ne 38, 3) := by decide +kernel
set_option maxRecDepth 20000 in
theorem d_179_221 : decode (js_b 179) 221 = .ok (.aload_n 0, 1) := by decide +kernel
set_option maxRecDepth 20000 in
theorem d_179_222 : decode (js_b 179) 222 = .ok (.iload 5, 2) := by decide +kernel
set_option maxRecDepth 20000 in
theorem d_179_224 : decode (js_b 179) 224 = .ok (.invokestatic 243, 3) := by decide +kernel
set_option maxRecDepth 20000 in
theorem d_179_227 : decode (js_b 179) 227 = .ok (.bipush (-13), 2) := by decide +kernel
set_option maxRecDepth 20000 in
theorem d_179_229 : decode (js_b 179) 229 = .ok (.if_icmp .ne 27, 3) := by decide +kernel
set_option maxRecDepth 20000 in
theorem d_179_232 : decode (js_b 179) 232 = .ok (.aload_n 0, 1) := by decide +kernel
set_option maxRecDepth 20000 in
theorem d_179_233 : decode (js_b 179) 233 = .ok (.iload 5, 2) := by decide +kernel
set_option maxRecDepth 20000 in
theorem d_179_235 : decode (js_b 179) 235 = .ok (.invokestatic 245, 3) := by decide +kernel
set_option maxRecDepth 20000 in
theorem d_179_238 : decode (js_b 179) 238 = .ok (.bipush (-13), 2) := by decide +kernel
set_option maxRecDepth 20000 in
theorem d_179_240 : decode (js_b 179) 240 = .ok (.if_icmp .ne 16, 3) := by decide +kernel
set_option maxRecDepth 20000 in
theorem d_179_243 : decode (js_b 179) 243 = .ok (.aload_n 0, 1) := by decide +kernel
set_option maxRecDepth 20000 in
theorem d_179_244 : decode (js_b 179) 244 = .ok (.iload 5, 2) := by decide +kernel
set_option maxRecDepth 20000 in
theorem d_179_246 : decode (js_b 179) 246 = .ok (.invokestatic 247, 3) := by decide +kernel
set_option maxRecDepth 20000 in
theorem d_179_249 : decode (js_b 179) 249 = .ok (.ldc2_w 130, 3) := by decide +kernel
set_option maxRecDepth 20000 in
theorem d_179_252 : decode (js_b 179) 252 = .ok (.lcmp, 1) := by decide +kernel
set_option maxRecDepth 20000 in
theorem d_179_253 : decode (js_b 179) 253 = .ok (.ifCond .eq 5, 3) := by decide +kernel
set_option maxRecDepth 20000 in
theorem d_179_256 : decode (js_b 179) 256 = .ok (.iconst 0, 1) := by decide +kernel
set_option maxRecDepth 20000 in
theorem d_179_257 : decode (js_b 179) 257 = .ok (.ireturn, 1) := by decide +kernel
set_option maxRecDepth 20000 in
theorem d_179_258 : decode (js_b 179) 258 = .ok (.iinc 2 1, 3) := by decide +kernel
set_option maxRecDepth 20000 in
theorem d_179_261 : decode (js_b 179) 261 = .ok (.goto 61, 3) := by decide +kernel
set_option maxRecDepth 20000 in
theorem d_179_264 : decode (js_b 179) 264 = .ok (.iload 6, 2) := by decide +kernel
set_option maxRecDepth 20000 in
theorem d_179_266 : decode (js_b 179) 266 = .ok (.ifCond .eq 56, 3) := by decide +kernel
set_option maxRecDepth 20000 in
theorem d_179_269 : decode (js_b 179) 269 = .ok (.aload_n 0, 1) := by decide +kernel
set_option maxRecDepth 20000 in
theorem d_179_270 : decode (js_b 179) 270 = .ok (.aload_n 0, 1) := by decide +kernel
set_option maxRecDepth 20000 in
theorem d_179_271 : decode (js_b 179) 271 = .ok (.iload 5, 2) := by decide +kernel
set_option maxRecDepth 20000 in
theorem d_179_273 : decode (js_b 179) 273 = .ok (.invokestatic 238, 3) := by decide +kernel
set_option maxRecDepth 20000 in
theorem d_179_276 : decode (js_b 179) 276 = .ok (.bipush 8, 2) := by decide +kernel
set_option maxRecDepth 20000 in
theorem d_179_278 : decode (js_b 179) 278 = .ok (.idiv, 1) := by decide +kernel
set_option maxRecDepth 20000 in
theorem d_179_279 : decode (js_b 179) 279 = .ok (.aload_n 0, 1) := by decide +kernel
set_option maxRecDepth 20000 in
theorem d_179_280 : decode (js_b 179) 280 = .ok (.iload 5, 2) := by decide +kernel
set_option maxRecDepth 20000 in
theorem d_179_282 : decode (js_b 179) 282 = .ok (.invokestatic 238, 3) := by decide +kernel
set_option maxRecDepth 20000 in
theorem d_179_285 : decode (js_b 179) 285 = .ok (.bipush 8, 2) := by decide +kernel
set_option maxRecDepth 20000 in
theorem d_179_287 : decode (js_b 179) 287 = .ok (.irem, 1) := by decide +kernel
set_option maxRecDepth 20000 in
theorem d_179_288 : decode (js_b 179) 288 = .ok (.invokestatic 175, 3) := by decide +kernel
set_option maxRecDepth 20000 in
theorem d_179_291 : decode (js_b 179) 291 = .ok (.iload 5, 2) := by decide +kernel
set_option maxRecDepth 20000 in
theorem d_179_293 : decode (js_b 179) 293 = .ok (.if_icmp .ne 27, 3) := by decide +kernel
set_option maxRecDepth 20000 in
theorem d_179_296 : decode (js_b 179) 296 = .ok (.aload_n 0, 1) := by decide +kernel
set_option maxRecDepth 20000 in
theorem d_179_297 : decode (js_b 179) 297 = .ok (.iload 5, 2) := by decide +kernel
set_option maxRecDepth 20000 in
theorem d_179_299 : decode (js_b 179) 299 = .ok (.iconst 4, 1) := by decide +kernel
set_option maxRecDepth 20000 in
theorem d_179_300 : decode (js_b 179) 300 = .ok (.invokestatic 234, 3) := by decide +kernel
set_option maxRecDepth 20000 in
theorem d_179_303 : decode (js_b 179) 303 = .ok (.bipush (-12), 2) := by decide +kernel
set_option maxRecDepth 20000 in
theorem d_179_305 : decode (js_b 179) 305 = .ok (.if_icmp .ne 15, 3) := by decide +kernel
set_option maxRecDepth 20000 in
theorem d_179_308 : decode (js_b 179) 308 = .ok (.aload_n 0, 1) := by decide +kernel
set_option maxRecDepth 20000 in
theorem d_179_309 : decode (js_b 179) 309 = .ok (.iload 5, 2) := by decide +kernel
set_option maxRecDepth 20000 in
theorem d_179_311 : decode (js_b 179) 311 = .ok (.iconst (-1), 1) := by decide +kernel
set_option maxRecDepth 20000 in
theorem d_179_312 : decode (js_b 179) 312 = .ok (.invokestatic 234, 3) := by decide +kernel
set_option maxRecDepth 20000 in
theorem d_179_315 : decode (js_b 179) 315 = .ok (.bipush (-12), 2) := by decide +kernel
set_option maxRecDepth 20000 in
theorem d_179_317 : decode (js_b 179) 317 = .ok (.if_icmp .eq 5, 3) := by decide +kernel
set_option maxRecDepth 20000 in
theorem d_179_320 : decode (js_b 179) 320 = .ok (.iconst 0, 1) := by decide +kernel
set_option maxRecDepth 20000 in
theorem d_179_321 : decode (js_b 179) 321 = .ok (.ireturn, 1) := by decide +kernel
set_option maxRecDepth 20000 in
theorem d_179_322 : decode (js_b 179) 322 = .ok (.iinc 5 1, 3) := by decide +kernel
set_option maxRecDepth 20000 in
theorem d_179_325 : decode (js_b 179) 325 = .ok (.goto (-310), 3) := by decide +kernel
set_option maxRecDepth 20000 in
theorem d_179_328 : decode (js_b 179) 328 = .ok (.aload_n 0, 1) := by decide +kernel
set_option maxRecDepth 20000 in
theorem d_179_329 : decode (js_b 179) 329 = .ok (.invokevirtual 250, 3) := by decide +kernel
set_option maxRecDepth 20000 in
theorem d_179_332 : decode (js_b 179) 332 = .ok (.iload_n 3, 1) := by decide +kernel
set_option maxRecDepth 20000 in
theorem d_179_333 : decode (js_b 179) 333 = .ok (.if_icmp .ne 56, 3) := by decide +kernel
set_option maxRecDepth 20000 in
theorem d_179_336 : decode (js_b 179) 336 = .ok (.aload_n 0, 1) := by decide +kernel
set_option maxRecDepth 20000 in
theorem d_179_337 : decode (js_b 179) 337 = .ok (.invokevirtual 193, 3) := by decide +kernel
set_option maxRecDepth 20000 in
theorem d_179_340 : decode (js_b 179) 340 = .ok (.iload_n 2, 1) := by decide +kernel
set_option maxRecDepth 20000 in
theorem d_179_341 : decode (js_b 179) 341 = .ok (.if_icmp .ne 48, 3) := by decide +kernel
set_option maxRecDepth 20000 in
theorem d_179_344 : decode (js_b 179) 344 = .ok (.aload_n 0, 1) := by decide +kernel
set_option maxRecDepth 20000 in
theorem d_179_345 : decode (js_b 179) 345 = .ok (.iload_n 2, 1) := by decide +kernel
set_option maxRecDepth 20000 in
theorem d_179_346 : decode (js_b 179) 346 = .ok (.invokestatic 236, 3) := by decide +kernel
set_option maxRecDepth 20000 in
theorem d_179_349 : decode (js_b 179) 349 = .ok (.bipush (-11), 2) := by decide +kernel
set_option maxRecDepth 20000 in
theorem d_179_351 : decode (js_b 179) 351 = .ok (.if_icmp .ne 38, 3) := by decide +kernel
set_option maxRecDepth 20000 in
theorem d_179_354 : decode (js_b 179) 354 = .ok (.aload_n 0, 1) := by decide +kernel
set_option maxRecDepth 20000 in
theorem d_179_355 : decode (js_b 179) 355 = .ok (.iconst (-1), 1) := by decide +kernel
set_option maxRecDepth 20000 in
theorem d_179_356 : decode (js_b 179) 356 = .ok (.invokestatic 236, 3) := by decide +kernel
set_option maxRecDepth 20000 in
theorem d_179_359 : decode (js_b 179) 359 = .ok (.bipush (-11), 2) := by decide +kernel
set_option maxRecDepth 20000 in
theorem d_179_361 : decode (js_b 179) 361 = .ok (.if_icmp .ne 28, 3) := by decide +kernel
set_option maxRecDepth 20000 in
theorem d_179_364 : decode (js_b 179) 364 = .ok (.aload_n 0, 1) := by decide +kernel
set_option maxRecDepth 20000 in
theorem d_179_365 : decode (js_b 179) 365 = .ok (.invokevirtual 253, 3) := by decide +kernel
set_option maxRecDepth 20000 in
theorem d_179_368 : decode (js_b 179) 368 = .ok (.iload 4, 2) := by decide +kernel
set_option maxRecDepth 20000 in
theorem d_179_370 : decode (js_b 179) 370 = .ok (.if_icmp .ne 19, 3) := by decide +kernel
set_option maxRecDepth 20000 in
theorem d_179_373 : decode (js_b 179) 373 = .ok (.aload_n 0, 1) := by decide +kernel
set_option maxRecDepth 20000 in
theorem d_179_374 : decode (js_b 179) 374 = .ok (.iconst (-1), 1) := by decide +kernel
set_option maxRecDepth 20000 in
theorem d_179_375 : decode (js_b 179) 375 = .ok (.bipush 9, 2) := by decide +kernel
set_option maxRecDepth 20000 in
theorem d_179_377 : decode (js_b 179) 377 = .ok (.invokestatic 234, 3) := by decide +kernel
set_option maxRecDepth 20000 in
theorem d_179_380 : decode (js_b 179) 380 = .ok (.bipush (-13), 2) := by decide +kernel
set_option maxRecDepth 20000 in
theorem d_179_382 : decode (js_b 179) 382 = .ok (.if_icmp .ne 7, 3) := by decide +kernel
set_option maxRecDepth 20000 in
theorem d_179_385 : decode (js_b 179) 385 = .ok (.iconst 1, 1) := by decide +kernel
set_option maxRecDepth 20000 in
theorem d_179_386 : decode (js_b 179) 386 = .ok (.goto 4, 3) := by decide +kernel
set_option maxRecDepth 20000 in
theorem d_179_389 : decode (js_b 179) 389 = .ok (.iconst 0, 1) := by decide +kernel
set_option maxRecDepth 20000 in
theorem d_179_390 : decode (js_b 179) 390 = .ok (.ireturn, 1) := by decide +kernel
theorem ki_179_15 : js_OkG 179 15 (o_il 5 17) := js_St.okG (st_iload d_179_15) (fun _ _ _ _ _ => rfl)
theorem ki_179_13 : js_OkG 179 13 (o_is 5 15) := js_St.okG (st_istore (Nat.le_of_ble_eq_true rfl) d_179_13) (fun _ _ _ _ _ => rfl)
theorem ki_179_12 : js_OkG 179 12 (o_ic (-1) 13) := js_St.okG (st_iconst rfl d_179_12) (fun _ _ _ _ _ => rfl)
theorem ki_179_10 : js_OkG 179 10 (o_is 4 12) := js_St.okG (st_istore (Nat.le_of_ble_eq_true rfl) d_179_10) (fun _ _ _ _ _ => rfl)
theorem ki_179_9 : js_OkG 179 9 (o_ic 0 10) := js_St.okG (st_iconst rfl d_179_9) (fun _ _ _ _ _ => rfl)
theorem ki_179_8 : js_OkG 179 8 (o_is 3 9) := js_St.okG (st_istoren rfl (Nat.le_of_ble_eq_true rfl) d_179_8) (fun _ _ _ _ _ => rfl)
theorem ki_179_7 : js_OkG 179 7 (o_ic 0 8) := js_St.okG (st_iconst rfl d_179_7) (fun _ _ _ _ _ => rfl)
theorem ki_179_6 : js_OkG 179 6 (o_is 2 7) := js_St.okG (st_istoren rfl (Nat.le_of_ble_eq_true rfl) d_179_6) (fun _ _ _ _ _ => rfl)
theorem ki_179_5 : js_OkG 179 5 (o_ic 0 6) := js_St.okG (st_iconst rfl d_179_5) (fun _ _ _ _ _ => rfl)
theorem ki_179_4 : js_OkG 179 4 (o_as 1 5) := js_St.okG (st_astoren rfl (Nat.le_of_ble_eq_true rfl) d_179_4) (fun _ _ _ _ _ => rfl)
theorem ki_179_2 : js_OkG 179 2 (o_na 105 (.int 0) 4) := js_St.okG (st_na (by decide) rfl (fun _ h => by cases h) (by decide) (fun _ => rfl) kw_768 d_179_2) (fun _ _ _ _ _ => rfl)
theorem ki_179_0 : js_OkG 179 0 (o_ic 16 2) := js_St.okG (st_bipush rfl d_179_0) (fun _ _ _ _ _ => rfl)
theorem ki_179_31 : js_OkG 179 31 (o_il 6 33) := js_St.okG (st_iload d_179_31) (fun _ _ _ _ _ => rfl)
theorem ki_179_30 : js_OkG 179 30 (o_il 3 31) := js_St.okG (st_iloadn rfl d_179_30) (fun _ _ _ _ _ => rfl)
theorem ki_179_28 : js_OkG 179 28 (o_is 6 30) := js_St.okG (st_istore (Nat.le_of_ble_eq_true rfl) d_179_28) (fun _ _ _ _ _ => rfl)
theorem ki_179_25 : js_OkG 179 25 (o_cI 65 2 8 28) := og_cI (site_V kk_179_65 (by decide) kw_624 kw_625 kw_626 (fun t ht => by cases ht; exact Or.inl ⟨by decide, _, rfl, rfl⟩) d_179_25) rfl rfl
theorem ki_179_23 : js_OkG 179 23 (o_il 5 25) := js_St.okG (st_iload d_179_23) (fun _ _ _ _ _ => rfl)
theorem ki_179_22 : js_OkG 179 22 (o_al 0 23) := js_St.okG (st_aloadn rfl d_179_22) (fun _ _ _ _ _ => rfl)
theorem ki_179_19 : js_OkG 179 19 (o_cge 328 22) := js_St.okG (st_icge (by decide) d_179_19) (fun _ _ _ _ _ => rfl)
theorem ki_179_17 : js_OkG 179 17 (o_ic 30 19) := js_St.okG (st_bipush rfl d_179_17) (fun _ _ _ _ _ => rfl)
theorem ki_179_46 : js_OkG 179 46 (o_il 5 48) := js_St.okG (st_iload d_179_46) (fun _ _ _ _ _ => rfl)
theorem ki_179_45 : js_OkG 179 45 (o_al 0 46) := js_St.okG (st_aloadn rfl d_179_45) (fun _ _ _ _ _ => rfl)
theorem ki_179_43 : js_OkG 179 43 (o_il 6 45) := js_St.okG (st_iload d_179_43) (fun _ _ _ _ _ => rfl)
theorem ki_179_42 : js_OkG 179 42 (o_is 3 43) := js_St.okG (st_istoren rfl (Nat.le_of_ble_eq_true rfl) d_179_42) (fun _ _ _ _ _ => rfl)
theorem ki_179_41 : js_OkG 179 41 (o_b2 (fun x y => x + y) 42) := js_St.okG (st_iadd d_179_41) (fun _ _ _ _ _ => rfl)
theorem ki_179_40 : js_OkG 179 40 (o_ic 0 41) := js_St.okG (st_iconst rfl d_179_40) (fun _ _ _ _ _ => rfl)
theorem ki_179_37 : js_OkG 179 37 (o_go 41) := js_St.okG (st_goto (by decide) d_179_37) (fun _ _ _ _ _ => rfl)
theorem ki_179_36 : js_OkG 179 36 (o_ic 1 37) := js_St.okG (st_iconst rfl d_179_36) (fun _ _ _ _ _ => rfl)
theorem ki_179_33 : js_OkG 179 33 (o_eq 40 36) := js_St.okG (st_ifeq (by decide) d_179_33) (fun _ _ _ _ _ => rfl)
theorem ki_179_62 : js_OkG 179 62 (o_il 6 64) := js_St.okG (st_iload d_179_62) (fun _ _ _ _ _ => rfl)
theorem ki_179_59 : js_OkG 179 59 (o_cne 120 62) := js_St.okG (st_icne (by decide) d_179_59) (fun _ _ _ _ _ => rfl)
theorem ki_179_58 : js_OkG 179 58 (o_ic 0 59) := js_St.okG (st_iconst rfl d_179_58) (fun _ _ _ _ _ => rfl)
theorem ki_179_55 : js_OkG 179 55 (o_go 59) := js_St.okG (st_goto (by decide) d_179_55) (fun _ _ _ _ _ => rfl)
theorem ki_179_54 : js_OkG 179 54 (o_ic 1 55) := js_St.okG (st_iconst rfl d_179_54) (fun _ _ _ _ _ => rfl)
theorem ki_179_51 : js_OkG 179 51 (o_lt 58 54) := js_St.okG (st_iflt (by decide) d_179_51) (fun _ _ _ _ _ => rfl)
theorem ki_179_48 : js_OkG 179 48 (o_cI 136 2 0 51) := og_sIW rfl rfl kB_179_136 rfl kw_629 kw_630 d_179_48
theorem ki_179_78 : js_OkG 179 78 (o_cne 120 81) := js_St.okG (st_icne (by decide) d_179_78) (fun _ _ _ _ _ => rfl)
theorem ki_179_77 : js_OkG 179 77 (o_ic 0 78) := js_St.okG (st_iconst rfl d_179_77) (fun _ _ _ _ _ => rfl)
theorem ki_179_74 : js_OkG 179 74 (o_go 78) := js_St.okG (st_goto (by decide) d_179_74) (fun _ _ _ _ _ => rfl)
theorem ki_179_73 : js_OkG 179 73 (o_ic 1 74) := js_St.okG (st_iconst rfl d_179_73) (fun _ _ _ _ _ => rfl)
theorem ki_179_70 : js_OkG 179 70 (o_lt 77 73) := js_St.okG (st_iflt (by decide) d_179_70) (fun _ _ _ _ _ => rfl)
theorem ki_179_67 : js_OkG 179 67 (o_cI 137 2 0 70) := og_sIW rfl rfl kB_179_137 rfl kw_640 kw_641 d_179_67
theorem ki_179_65 : js_OkG 179 65 (o_il 5 67) := js_St.okG (st_iload d_179_65) (fun _ _ _ _ _ => rfl)
theorem ki_179_64 : js_OkG 179 64 (o_al 0 65) := js_St.okG (st_aloadn rfl d_179_64) (fun _ _ _ _ _ => rfl)
theorem ki_179_93 : js_OkG 179 93 (o_go 97) := js_St.okG (st_goto (by decide) d_179_93) (fun _ _ _ _ _ => rfl)
theorem ki_179_92 : js_OkG 179 92 (o_ic 1 93) := js_St.okG (st_iconst rfl d_179_92) (fun _ _ _ _ _ => rfl)
theorem ki_179_89 : js_OkG 179 89 (o_lt 96 92) := js_St.okG (st_iflt (by decide) d_179_89) (fun _ _ _ _ _ => rfl)
theorem ki_179_86 : js_OkG 179 86 (o_cI 139 2 0 89) := og_sIW rfl rfl kB_179_139 rfl kw_647 kw_648 d_179_86
theorem ki_179_84 : js_OkG 179 84 (o_il 5 86) := js_St.okG (st_iload d_179_84) (fun _ _ _ _ _ => rfl)
theorem ki_179_83 : js_OkG 179 83 (o_al 0 84) := js_St.okG (st_aloadn rfl d_179_83) (fun _ _ _ _ _ => rfl)
theorem ki_179_81 : js_OkG 179 81 (o_il 6 83) := js_St.okG (st_iload d_179_81) (fun _ _ _ _ _ => rfl)
theorem ki_179_109 : js_OkG 179 109 (o_lt 116 112) := js_St.okG (st_iflt (by decide) d_179_109) (fun _ _ _ _ _ => rfl)
theorem ki_179_106 : js_OkG 179 106 (o_cI 138 3 0 109) := og_sIW rfl rfl kB_179_138 rfl kw_655 kw_656 d_179_106
theorem ki_179_105 : js_OkG 179 105 (o_ic 0 106) := js_St.okG (st_iconst rfl d_179_105) (fun _ _ _ _ _ => rfl)
theorem ki_179_103 : js_OkG 179 103 (o_il 5 105) := js_St.okG (st_iload d_179_103) (fun _ _ _ _ _ => rfl)
theorem ki_179_102 : js_OkG 179 102 (o_al 0 103) := js_St.okG (st_aloadn rfl d_179_102) (fun _ _ _ _ _ => rfl)
theorem ki_179_100 : js_OkG 179 100 (o_il 6 102) := js_St.okG (st_iload d_179_100) (fun _ _ _ _ _ => rfl)
theorem ki_179_97 : js_OkG 179 97 (o_cne 120 100) := js_St.okG (st_icne (by decide) d_179_97) (fun _ _ _ _ _ => rfl)
theorem ki_179_96 : js_OkG 179 96 (o_ic 0 97) := js_St.okG (st_iconst rfl d_179_96) (fun _ _ _ _ _ => rfl)
theorem ki_179_127 : js_OkG 179 127 (o_ic 4 128) := js_St.okG (st_iconst rfl d_179_127) (fun _ _ _ _ _ => rfl)
theorem ki_179_125 : js_OkG 179 125 (o_il 7 127) := js_St.okG (st_iload d_179_125) (fun _ _ _ _ _ => rfl)
theorem ki_179_123 : js_OkG 179 123 (o_is 7 125) := js_St.okG (st_istore (Nat.le_of_ble_eq_true rfl) d_179_123) (fun _ _ _ _ _ => rfl)
theorem ki_179_122 : js_OkG 179 122 (o_ic 0 123) := js_St.okG (st_iconst rfl d_179_122) (fun _ _ _ _ _ => rfl)
theorem ki_179_121 : js_OkG 179 121 (o_rZ) := og_rZ rfl d_179_121
theorem ki_179_120 : js_OkG 179 120 (o_ic 0 121) := js_St.okG (st_iconst rfl d_179_120) (fun _ _ _ _ _ => rfl)
theorem ki_179_117 : js_OkG 179 117 (o_ceq 122 120) := js_St.okG (st_iceq (by decide) d_179_117) (fun _ _ _ _ _ => rfl)
theorem ki_179_116 : js_OkG 179 116 (o_ic 0 117) := js_St.okG (st_iconst rfl d_179_116) (fun _ _ _ _ _ => rfl)
theorem ki_179_113 : js_OkG 179 113 (o_go 117) := js_St.okG (st_goto (by decide) d_179_113) (fun _ _ _ _ _ => rfl)
theorem ki_179_112 : js_OkG 179 112 (o_ic 1 113) := js_St.okG (st_iconst rfl d_179_112) (fun _ _ _ _ _ => rfl)
theorem ki_179_141 : js_OkG 179 141 (o_cI 138 3 0 144) := og_sIW rfl rfl kB_179_138 rfl kw_655 kw_656 d_179_141
theorem ki_179_139 : js_OkG 179 139 (o_il 7 141) := js_St.okG (st_iload d_179_139) (fun _ _ _ _ _ => rfl)
theorem ki_179_137 : js_OkG 179 137 (o_il 5 139) := js_St.okG (st_iload d_179_137) (fun _ _ _ _ _ => rfl)
theorem ki_179_136 : js_OkG 179 136 (o_al 0 137) := js_St.okG (st_aloadn rfl d_179_136) (fun _ _ _ _ _ => rfl)
theorem ki_179_133 : js_OkG 179 133 (o_eq 174 136) := js_St.okG (st_ifeq (by decide) d_179_133) (fun _ _ _ _ _ => rfl)
theorem ki_179_131 : js_OkG 179 131 (o_il 6 133) := js_St.okG (st_iload d_179_131) (fun _ _ _ _ _ => rfl)
theorem ki_179_128 : js_OkG 179 128 (o_cge 174 131) := js_St.okG (st_icge (by decide) d_179_128) (fun _ _ _ _ _ => rfl)
theorem ki_179_159 : js_OkG 179 159 (o_ic 1 160) := js_St.okG (st_iconst rfl d_179_159) (fun _ _ _ _ _ => rfl)
theorem ki_179_156 : js_OkG 179 156 (o_go 160) := js_St.okG (st_goto (by decide) d_179_156) (fun _ _ _ _ _ => rfl)
theorem ki_179_155 : js_OkG 179 155 (o_ic 0 156) := js_St.okG (st_iconst rfl d_179_155) (fun _ _ _ _ _ => rfl)
theorem ki_179_152 : js_OkG 179 152 (o_eq 159 155) := js_St.okG (st_ifeq (by decide) d_179_152) (fun _ _ _ _ _ => rfl)
theorem ki_179_151 : js_OkG 179 151 (o_lI 105 152) := js_St.okG (st_lIz d_179_151) (fun _ _ _ _ _ => rfl)
theorem ki_179_149 : js_OkG 179 149 (o_il 8 151) := js_St.okG (st_iload d_179_149) (fun _ _ _ _ _ => rfl)
theorem ki_179_148 : js_OkG 179 148 (o_al 1 149) := js_St.okG (st_aloadn rfl d_179_148) (fun _ _ _ _ _ => rfl)
theorem ki_179_146 : js_OkG 179 146 (o_il 4 148) := js_St.okG (st_iload d_179_146) (fun _ _ _ _ _ => rfl)
theorem ki_179_144 : js_OkG 179 144 (o_is 8 146) := js_St.okG (st_istore (Nat.le_of_ble_eq_true rfl) d_179_144) (fun _ _ _ _ _ => rfl)
theorem ki_179_174 : js_OkG 179 174 (o_il 6 176) := js_St.okG (st_iload d_179_174) (fun _ _ _ _ _ => rfl)
theorem ki_179_171 : js_OkG 179 171 (o_go 125) := js_St.okG (st_goto (by decide) d_179_171) (fun _ _ _ _ _ => rfl)
theorem ki_179_168 : js_OkG 179 168 (o_inc 7 1 171) := js_St.okG (st_iinc rfl (Nat.le_of_ble_eq_true rfl) d_179_168) (fun _ _ _ _ _ => rfl)
theorem ki_179_167 : js_OkG 179 167 (o_sZ 105 168) := js_St.okG (st_sZ d_179_167) (fun _ _ _ _ _ => rfl)
theorem ki_179_166 : js_OkG 179 166 (o_ic 1 167) := js_St.okG (st_iconst rfl d_179_166) (fun _ _ _ _ _ => rfl)
theorem ki_179_164 : js_OkG 179 164 (o_il 8 166) := js_St.okG (st_iload d_179_164) (fun _ _ _ _ _ => rfl)
theorem ki_179_163 : js_OkG 179 163 (o_al 1 164) := js_St.okG (st_aloadn rfl d_179_163) (fun _ _ _ _ _ => rfl)
theorem ki_179_161 : js_OkG 179 161 (o_is 4 163) := js_St.okG (st_istore (Nat.le_of_ble_eq_true rfl) d_179_161) (fun _ _ _ _ _ => rfl)
theorem ki_179_160 : js_OkG 179 160 (o_b2 (fun x y => x + y) 161) := js_St.okG (st_iadd d_179_160) (fun _ _ _ _ _ => rfl)
theorem ki_179_190 : js_OkG 179 190 (o_cI 135 2 0 193) := og_sIW rfl rfl kB_179_135 rfl kw_667 kw_668 d_179_190
theorem ki_179_189 : js_OkG 179 189 (o_il 2 190) := js_St.okG (st_iloadn rfl d_179_189) (fun _ _ _ _ _ => rfl)
theorem ki_179_188 : js_OkG 179 188 (o_al 0 189) := js_St.okG (st_aloadn rfl d_179_188) (fun _ _ _ _ _ => rfl)
theorem ki_179_185 : js_OkG 179 185 (o_ne 264 188) := js_St.okG (st_ifne (by decide) d_179_185) (fun _ _ _ _ _ => rfl)
theorem ki_179_182 : js_OkG 179 182 (o_cI 69 2 8 185) := og_cI (site_V kk_179_69 (by decide) kw_650 kw_651 kw_652 (fun t ht => by cases ht; exact Or.inl ⟨by decide, _, rfl, rfl⟩) d_179_182) rfl rfl
theorem ki_179_180 : js_OkG 179 180 (o_il 5 182) := js_St.okG (st_iload d_179_180) (fun _ _ _ _ _ => rfl)
theorem ki_179_179 : js_OkG 179 179 (o_al 0 180) := js_St.okG (st_aloadn rfl d_179_179) (fun _ _ _ _ _ => rfl)
theorem ki_179_176 : js_OkG 179 176 (o_eq 264 179) := js_St.okG (st_ifeq (by decide) d_179_176) (fun _ _ _ _ _ => rfl)
theorem ki_179_206 : js_OkG 179 206 (o_cne 256 209) := js_St.okG (st_icne (by decide) d_179_206) (fun _ _ _ _ _ => rfl)
theorem ki_179_204 : js_OkG 179 204 (o_ic (-13) 206) := js_St.okG (st_bipush rfl d_179_204) (fun _ _ _ _ _ => rfl)
theorem ki_179_201 : js_OkG 179 201 (o_cI 140 2 0 204) := og_sIW rfl rfl kB_179_140 rfl kw_679 kw_680 d_179_201
theorem ki_179_199 : js_OkG 179 199 (o_il 5 201) := js_St.okG (st_iload d_179_199) (fun _ _ _ _ _ => rfl)
theorem ki_179_198 : js_OkG 179 198 (o_al 0 199) := js_St.okG (st_aloadn rfl d_179_198) (fun _ _ _ _ _ => rfl)
theorem ki_179_195 : js_OkG 179 195 (o_cne 256 198) := js_St.okG (st_icne (by decide) d_179_195) (fun _ _ _ _ _ => rfl)
theorem ki_179_193 : js_OkG 179 193 (o_il 5 195) := js_St.okG (st_iload d_179_193) (fun _ _ _ _ _ => rfl)
theorem ki_179_222 : js_OkG 179 222 (o_il 5 224) := js_St.okG (st_iload d_179_222) (fun _ _ _ _ _ => rfl)
theorem ki_179_221 : js_OkG 179 221 (o_al 0 222) := js_St.okG (st_aloadn rfl d_179_221) (fun _ _ _ _ _ => rfl)
theorem ki_179_218 : js_OkG 179 218 (o_cne 256 221) := js_St.okG (st_icne (by decide) d_179_218) (fun _ _ _ _ _ => rfl)
theorem ki_179_216 : js_OkG 179 216 (o_ic (-13) 218) := js_St.okG (st_bipush rfl d_179_216) (fun _ _ _ _ _ => rfl)
theorem ki_179_213 : js_OkG 179 213 (o_cI 148 3 0 216) := og_sIW rfl rfl kB_179_148 rfl kw_691 kw_692 d_179_213
theorem ki_179_212 : js_OkG 179 212 (o_ic 0 213) := js_St.okG (st_iconst rfl d_179_212) (fun _ _ _ _ _ => rfl)
theorem ki_179_210 : js_OkG 179 210 (o_il 5 212) := js_St.okG (st_iload d_179_210) (fun _ _ _ _ _ => rfl)
theorem ki_179_209 : js_OkG 179 209 (o_al 0 210) := js_St.okG (st_aloadn rfl d_179_209) (fun _ _ _ _ _ => rfl)
theorem ki_179_238 : js_OkG 179 238 (o_ic (-13) 240) := js_St.okG (st_bipush rfl d_179_238) (fun _ _ _ _ _ => rfl)
theorem ki_179_235 : js_OkG 179 235 (o_cI 155 2 0 238) := og_sIW rfl rfl kB_179_155 rfl kw_707 kw_708 d_179_235
theorem ki_179_233 : js_OkG 179 233 (o_il 5 235) := js_St.okG (st_iload d_179_233) (fun _ _ _ _ _ => rfl)
theorem ki_179_232 : js_OkG 179 232 (o_al 0 233) := js_St.okG (st_aloadn rfl d_179_232) (fun _ _ _ _ _ => rfl)
theorem ki_179_229 : js_OkG 179 229 (o_cne 256 232) := js_St.okG (st_icne (by decide) d_179_229) (fun _ _ _ _ _ => rfl)
theorem ki_179_227 : js_OkG 179 227 (o_ic (-13) 229) := js_St.okG (st_bipush rfl d_179_227) (fun _ _ _ _ _ => rfl)
theorem ki_179_224 : js_OkG 179 224 (o_cI 149 2 0 227) := og_sIW rfl rfl kB_179_149 rfl kw_699 kw_700 d_179_224
theorem ki_179_253 : js_OkG 179 253 (o_eq 258 256) := js_St.okG (st_ifeq (by decide) d_179_253) (fun _ _ _ _ _ => rfl)
theorem ki_179_252 : js_OkG 179 252 (o_lcmp 253) := js_St.okG (st_lcmp d_179_252) (fun _ _ _ _ _ => rfl)
theorem ki_179_249 : js_OkG 179 249 (o_lc (-2) 252) := js_St.okG (st_ldc2 kw_737 d_179_249) (fun _ _ _ _ _ => rfl)
theorem ki_179_246 : js_OkG 179 246 (o_cL 164 2 0 249) := og_sLW rfl rfl kB_179_164 rfl kw_733 kw_734 d_179_246
theorem ki_179_244 : js_OkG 179 244 (o_il 5 246) := js_St.okG (st_iload d_179_244) (fun _ _ _ _ _ => rfl)
theorem ki_179_243 : js_OkG 179 243 (o_al 0 244) := js_St.okG (st_aloadn rfl d_179_243) (fun _ _ _ _ _ => rfl)
theorem ki_179_240 : js_OkG 179 240 (o_cne 256 243) := js_St.okG (st_icne (by decide) d_179_240) (fun _ _ _ _ _ => rfl)
theorem ki_179_271 : js_OkG 179 271 (o_il 5 273) := js_St.okG (st_iload d_179_271) (fun _ _ _ _ _ => rfl)
theorem ki_179_270 : js_OkG 179 270 (o_al 0 271) := js_St.okG (st_aloadn rfl d_179_270) (fun _ _ _ _ _ => rfl)
theorem ki_179_269 : js_OkG 179 269 (o_al 0 270) := js_St.okG (st_aloadn rfl d_179_269) (fun _ _ _ _ _ => rfl)
theorem ki_179_266 : js_OkG 179 266 (o_eq 322 269) := js_St.okG (st_ifeq (by decide) d_179_266) (fun _ _ _ _ _ => rfl)
theorem ki_179_264 : js_OkG 179 264 (o_il 6 266) := js_St.okG (st_iload d_179_264) (fun _ _ _ _ _ => rfl)
theorem ki_179_261 : js_OkG 179 261 (o_go 322) := js_St.okG (st_goto (by decide) d_179_261) (fun _ _ _ _ _ => rfl)
theorem ki_179_258 : js_OkG 179 258 (o_inc 2 1 261) := js_St.okG (st_iinc rfl (Nat.le_of_ble_eq_true rfl) d_179_258) (fun _ _ _ _ _ => rfl)
theorem ki_179_257 : js_OkG 179 257 (o_rZ) := og_rZ rfl d_179_257
theorem ki_179_256 : js_OkG 179 256 (o_ic 0 257) := js_St.okG (st_iconst rfl d_179_256) (fun _ _ _ _ _ => rfl)
theorem ki_179_287 : js_OkG 179 287 (o_rem 288) := js_St.okG (st_irem d_179_287) (fun _ _ _ _ _ => rfl)
theorem ki_179_285 : js_OkG 179 285 (o_ic 8 287) := js_St.okG (st_bipush rfl d_179_285) (fun _ _ _ _ _ => rfl)
theorem ki_179_282 : js_OkG 179 282 (o_cI 140 2 0 285) := og_sIW rfl rfl kB_179_140 rfl kw_679 kw_680 d_179_282
theorem ki_179_280 : js_OkG 179 280 (o_il 5 282) := js_St.okG (st_iload d_179_280) (fun _ _ _ _ _ => rfl)
theorem ki_179_279 : js_OkG 179 279 (o_al 0 280) := js_St.okG (st_aloadn rfl d_179_279) (fun _ _ _ _ _ => rfl)
theorem ki_179_278 : js_OkG 179 278 (o_div 279) := js_St.okG (st_idiv d_179_278) (fun _ _ _ _ _ => rfl)
theorem ki_179_276 : js_OkG 179 276 (o_ic 8 278) := js_St.okG (st_bipush rfl d_179_276) (fun _ _ _ _ _ => rfl)
theorem ki_179_273 : js_OkG 179 273 (o_cI 140 2 0 276) := og_sIW rfl rfl kB_179_140 rfl kw_679 kw_680 d_179_273
theorem ki_179_303 : js_OkG 179 303 (o_ic (-12) 305) := js_St.okG (st_bipush rfl d_179_303) (fun _ _ _ _ _ => rfl)
theorem ki_179_300 : js_OkG 179 300 (o_cI 138 3 0 303) := og_sIW rfl rfl kB_179_138 rfl kw_655 kw_656 d_179_300
theorem ki_179_299 : js_OkG 179 299 (o_ic 4 300) := js_St.okG (st_iconst rfl d_179_299) (fun _ _ _ _ _ => rfl)
theorem ki_179_297 : js_OkG 179 297 (o_il 5 299) := js_St.okG (st_iload d_179_297) (fun _ _ _ _ _ => rfl)
theorem ki_179_296 : js_OkG 179 296 (o_al 0 297) := js_St.okG (st_aloadn rfl d_179_296) (fun _ _ _ _ _ => rfl)
theorem ki_179_293 : js_OkG 179 293 (o_cne 320 296) := js_St.okG (st_icne (by decide) d_179_293) (fun _ _ _ _ _ => rfl)
theorem ki_179_291 : js_OkG 179 291 (o_il 5 293) := js_St.okG (st_iload d_179_291) (fun _ _ _ _ _ => rfl)
theorem ki_179_288 : js_OkG 179 288 (o_cI 147 3 0 291) := og_sIW rfl rfl kB_179_147 rfl kw_738 kw_739 d_179_288
theorem ki_179_317 : js_OkG 179 317 (o_ceq 322 320) := js_St.okG (st_iceq (by decide) d_179_317) (fun _ _ _ _ _ => rfl)
theorem ki_179_315 : js_OkG 179 315 (o_ic (-12) 317) := js_St.okG (st_bipush rfl d_179_315) (fun _ _ _ _ _ => rfl)
theorem ki_179_312 : js_OkG 179 312 (o_cI 138 3 0 315) := og_sIW rfl rfl kB_179_138 rfl kw_655 kw_656 d_179_312
theorem ki_179_311 : js_OkG 179 311 (o_ic (-1) 312) := js_St.okG (st_iconst rfl d_179_311) (fun _ _ _ _ _ => rfl)
theorem ki_179_309 : js_OkG 179 309 (o_il 5 311) := js_St.okG (st_iload d_179_309) (fun _ _ _ _ _ => rfl)
theorem ki_179_308 : js_OkG 179 308 (o_al 0 309) := js_St.okG (st_aloadn rfl d_179_308) (fun _ _ _ _ _ => rfl)
theorem ki_179_305 : js_OkG 179 305 (o_cne 320 308) := js_St.okG (st_icne (by decide) d_179_305) (fun _ _ _ _ _ => rfl)
theorem ki_179_333 : js_OkG 179 333 (o_cne 389 336) := js_St.okG (st_icne (by decide) d_179_333) (fun _ _ _ _ _ => rfl)
theorem ki_179_332 : js_OkG 179 332 (o_il 3 333) := js_St.okG (st_iloadn rfl d_179_332) (fun _ _ _ _ _ => rfl)
theorem ki_179_329 : js_OkG 179 329 (o_cI 62 1 8 332) := og_cI (site_V kk_179_62 (by decide) kw_746 kw_747 kw_748 (fun t ht => by cases ht; exact Or.inl ⟨by decide, _, rfl, rfl⟩) d_179_329) rfl rfl
theorem ki_179_328 : js_OkG 179 328 (o_al 0 329) := js_St.okG (st_aloadn rfl d_179_328) (fun _ _ _ _ _ => rfl)
theorem ki_179_325 : js_OkG 179 325 (o_go 15) := js_St.okG (st_goto (by decide) d_179_325) (fun _ _ _ _ _ => rfl)
theorem ki_179_322 : js_OkG 179 322 (o_inc 5 1 325) := js_St.okG (st_iinc rfl (Nat.le_of_ble_eq_true rfl) d_179_322) (fun _ _ _ _ _ => rfl)
theorem ki_179_321 : js_OkG 179 321 (o_rZ) := og_rZ rfl d_179_321
theorem ki_179_320 : js_OkG 179 320 (o_ic 0 321) := js_St.okG (st_iconst rfl d_179_320) (fun _ _ _ _ _ => rfl)
theorem ki_179_351 : js_OkG 179 351 (o_cne 389 354) := js_St.okG (st_icne (by decide) d_179_351) (fun _ _ _ _ _ => rfl)
theorem ki_179_349 : js_OkG 179 349 (o_ic (-11) 351) := js_St.okG (st_bipush rfl d_179_349) (fun _ _ _ _ _ => rfl)
theorem ki_179_346 : js_OkG 179 346 (o_cI 135 2 0 349) := og_sIW rfl rfl kB_179_135 rfl kw_667 kw_668 d_179_346
theorem ki_179_345 : js_OkG 179 345 (o_il 2 346) := js_St.okG (st_iloadn rfl d_179_345) (fun _ _ _ _ _ => rfl)
theorem ki_179_344 : js_OkG 179 344 (o_al 0 345) := js_St.okG (st_aloadn rfl d_179_344) (fun _ _ _ _ _ => rfl)
theorem ki_179_341 : js_OkG 179 341 (o_cne 389 344) := js_St.okG (st_icne (by decide) d_179_341) (fun _ _ _ _ _ => rfl)
theorem ki_179_340 : js_OkG 179 340 (o_il 2 341) := js_St.okG (st_iloadn rfl d_179_340) (fun _ _ _ _ _ => rfl)
theorem ki_179_337 : js_OkG 179 337 (o_cI 63 1 8 340) := og_cI (site_V kk_179_63 (by decide) kw_750 kw_751 kw_752 (fun t ht => by cases ht; exact Or.inl ⟨by decide, _, rfl, rfl⟩) d_179_337) rfl rfl
theorem ki_179_336 : js_OkG 179 336 (o_al 0 337) := js_St.okG (st_aloadn rfl d_179_336) (fun _ _ _ _ _ => rfl)
theorem ki_179_365 : js_OkG 179 365 (o_cI 71 1 8 368) := og_cI (site_V kk_179_71 (by decide) kw_758 kw_759 kw_760 (fun t ht => by cases ht; exact Or.inl ⟨by decide, _, rfl, rfl⟩) d_179_365) rfl rfl
theorem ki_179_364 : js_OkG 179 364 (o_al 0 365) := js_St.okG (st_aloadn rfl d_179_364) (fun _ _ _ _ _ => rfl)
theorem ki_179_361 : js_OkG 179 361 (o_cne 389 364) := js_St.okG (st_icne (by decide) d_179_361) (fun _ _ _ _ _ => rfl)
theorem ki_179_359 : js_OkG 179 359 (o_ic (-11) 361) := js_St.okG (st_bipush rfl d_179_359) (fun _ _ _ _ _ => rfl)
theorem ki_179_356 : js_OkG 179 356 (o_cI 135 2 0 359) := og_sIW rfl rfl kB_179_135 rfl kw_667 kw_668 d_179_356
theorem ki_179_355 : js_OkG 179 355 (o_ic (-1) 356) := js_St.okG (st_iconst rfl d_179_355) (fun _ _ _ _ _ => rfl)
theorem ki_179_354 : js_OkG 179 354 (o_al 0 355) := js_St.okG (st_aloadn rfl d_179_354) (fun _ _ _ _ _ => rfl)
theorem ki_179_382 : js_OkG 179 382 (o_cne 389 385) := js_St.okG (st_icne (by decide) d_179_382) (fun _ _ _ _ _ => rfl)
theorem ki_179_380 : js_OkG 179 380 (o_ic (-13) 382) := js_St.okG (st_bipush rfl d_179_380) (fun _ _ _ _ _ => rfl)
theorem ki_179_377 : js_OkG 179 377 (o_cI 138 3 0 380) := og_sIW rfl rfl kB_179_138 rfl kw_655 kw_656 d_179_377
theorem ki_179_375 : js_OkG 179 375 (o_ic 9 377) := js_St.okG (st_bipush rfl d_179_375) (fun _ _ _ _ _ => rfl)
theorem ki_179_374 : js_OkG 179 374 (o_ic (-1) 375) := js_St.okG (st_iconst rfl d_179_374) (fun _ _ _ _ _ => rfl)
theorem ki_179_373 : js_OkG 179 373 (o_al 0 374) := js_St.okG (st_aloadn rfl d_179_373) (fun _ _ _ _ _ => rfl)
theorem ki_179_370 : js_OkG 179 370 (o_cne 389 373) := js_St.okG (st_icne (by decide) d_179_370) (fun _ _ _ _ _ => rfl)
theorem ki_179_368 : js_OkG 179 368 (o_il 4 370) := js_St.okG (st_iload d_179_368) (fun _ _ _ _ _ => rfl)
theorem ki_179_390 : js_OkG 179 390 (o_rZ) := og_rZ rfl d_179_390
theorem ki_179_389 : js_OkG 179 389 (o_ic 0 390) := js_St.okG (st_iconst rfl d_179_389) (fun _ _ _ _ _ => rfl)
theorem ki_179_386 : js_OkG 179 386 (o_go 390) := js_St.okG (st_goto (by decide) d_179_386) (fun _ _ _ _ _ => rfl)
theorem ki_179_385 : js_OkG 179 385 (o_ic 1 386) := js_St.okG (st_iconst rfl d_179_385) (fun _ _ _ _ _ => rfl)
set_option maxRecDepth 20000 in
theorem mk_179 : js_mokG 179 := jk_tab (fun _ => js_St.okG st_bad (fun _ _ _ _ _ => rfl)) (show jk_all (js_OkG 179) 0 tb_179 from ⟨⟨ki_179_0, ⟨kbadG, ⟨ki_179_2, ⟨kbadG, ⟨ki_179_4, ⟨ki_179_5, ⟨ki_179_6, ⟨ki_179_7, ⟨ki_179_8, ⟨ki_179_9, ⟨ki_179_10, ⟨kbadG, ⟨ki_179_12, ⟨ki_179_13, ⟨kbadG, ⟨ki_179_15, trivial⟩⟩⟩⟩⟩⟩⟩⟩⟩⟩⟩⟩⟩⟩⟩⟩, ⟨⟨kbadG, ⟨ki_179_17, ⟨kbadG, ⟨ki_179_19, ⟨kbadG, ⟨kbadG, ⟨ki_179_22, ⟨ki_179_23, ⟨kbadG, ⟨ki_179_25, ⟨kbadG, ⟨kbadG, ⟨ki_179_28, ⟨kbadG, ⟨ki_179_30, ⟨ki_179_31, trivial⟩⟩⟩⟩⟩⟩⟩⟩⟩⟩⟩⟩⟩⟩⟩⟩, ⟨⟨kbadG, ⟨ki_179_33, ⟨kbadG, ⟨kbadG, ⟨ki_179_36, ⟨ki_179_37, ⟨kbadG, ⟨kbadG, ⟨ki_179_40, ⟨ki_179_41, ⟨ki_179_42, ⟨ki_179_43, ⟨kbadG, ⟨ki_179_45, ⟨ki_179_46, ⟨kbadG, trivial⟩⟩⟩⟩⟩⟩⟩⟩⟩⟩⟩⟩⟩⟩⟩⟩, ⟨⟨ki_179_48, ⟨kbadG, ⟨kbadG, ⟨ki_179_51, ⟨kbadG, ⟨kbadG, ⟨ki_179_54, ⟨ki_179_55, ⟨kbadG, ⟨kbadG, ⟨ki_179_58, ⟨ki_179_59, ⟨kbadG, ⟨kbadG, ⟨ki_179_62, ⟨kbadG, trivial⟩⟩⟩⟩⟩⟩⟩⟩⟩⟩⟩⟩⟩⟩⟩⟩, ⟨⟨ki_179_64, ⟨ki_179_65, ⟨kbadG, ⟨ki_179_67, ⟨kbadG, ⟨kbadG, ⟨ki_179_70, ⟨kbadG, ⟨kbadG, ⟨ki_179_73, ⟨ki_179_74, ⟨kbadG, ⟨kbadG, ⟨ki_179_77, ⟨ki_179_78, ⟨kbadG, trivial⟩⟩⟩⟩⟩⟩⟩⟩⟩⟩⟩⟩⟩⟩⟩⟩, ⟨⟨kbadG, ⟨ki_179_81, ⟨kbadG, ⟨ki_179_83, ⟨ki_179_84, ⟨kbadG, ⟨ki_179_86, ⟨kbadG, ⟨kbadG, ⟨ki_179_89, ⟨kbadG, ⟨kbadG, ⟨ki_179_92, ⟨ki_179_93, ⟨kbadG, ⟨kbadG, trivial⟩⟩⟩⟩⟩⟩⟩⟩⟩⟩⟩⟩⟩⟩⟩⟩, ⟨⟨ki_179_96, ⟨ki_179_97, ⟨kbadG, ⟨kbadG, ⟨ki_179_100, ⟨kbadG, ⟨ki_179_102, ⟨ki_179_103, ⟨kbadG, ⟨ki_179_105, ⟨ki_179_106, ⟨kbadG, ⟨kbadG, ⟨ki_179_109, ⟨kbadG, ⟨kbadG, trivial⟩⟩⟩⟩⟩⟩⟩⟩⟩⟩⟩⟩⟩⟩⟩⟩, ⟨⟨ki_179_112, ⟨ki_179_113, ⟨kbadG, ⟨kbadG, ⟨ki_179_116, ⟨ki_179_117, ⟨kbadG, ⟨kbadG, ⟨ki_179_120, ⟨ki_179_121, ⟨ki_179_122, ⟨ki_179_123, ⟨kbadG, ⟨ki_179_125, ⟨kbadG, ⟨ki_179_127, trivial⟩⟩⟩⟩⟩⟩⟩⟩⟩⟩⟩⟩⟩⟩⟩⟩, ⟨⟨ki_179_128, ⟨kbadG, ⟨kbadG, ⟨ki_179_131, ⟨kbadG, ⟨ki_179_133, ⟨kbadG, ⟨kbadG, ⟨ki_179_136, ⟨ki_179_137, ⟨kbadG, ⟨ki_179_139, ⟨kbadG, ⟨ki_179_141, ⟨kbadG, ⟨kbadG, trivial⟩⟩⟩⟩⟩⟩⟩⟩⟩⟩⟩⟩⟩⟩⟩⟩, ⟨⟨ki_179_144, ⟨kbadG, ⟨ki_179_146, ⟨kbadG, ⟨ki_179_148, ⟨ki_179_149, ⟨kbadG, ⟨ki_179_151, ⟨ki_179_152, ⟨kbadG, ⟨kbadG, ⟨ki_179_155, ⟨ki_179_156, ⟨kbadG, ⟨kbadG, ⟨ki_179_159, trivial⟩⟩⟩⟩⟩⟩⟩⟩⟩⟩⟩⟩⟩⟩⟩⟩, ⟨⟨ki_179_160, ⟨ki_179_161, ⟨kbadG, ⟨ki_179_163, ⟨ki_179_164, ⟨kbadG, ⟨ki_179_166, ⟨ki_179_167, ⟨ki_179_168, ⟨kbadG, ⟨kbadG, ⟨ki_179_171, ⟨kbadG, ⟨kbadG, ⟨ki_179_174, ⟨kbadG, trivial⟩⟩⟩⟩⟩⟩⟩⟩⟩⟩⟩⟩⟩⟩⟩⟩, ⟨⟨ki_179_176, ⟨kbadG, ⟨kbadG, ⟨ki_179_179, ⟨ki_179_180, ⟨kbadG, ⟨ki_179_182, ⟨kbadG, ⟨kbadG, ⟨ki_179_185, ⟨kbadG, ⟨kbadG, ⟨ki_179_188, ⟨ki_179_189, ⟨ki_179_190, ⟨kbadG, trivial⟩⟩⟩⟩⟩⟩⟩⟩⟩⟩⟩⟩⟩⟩⟩⟩, ⟨⟨kbadG, ⟨ki_179_193, ⟨kbadG, ⟨ki_179_195, ⟨kbadG, ⟨kbadG, ⟨ki_179_198, ⟨ki_179_199, ⟨kbadG, ⟨ki_179_201, ⟨kbadG, ⟨kbadG, ⟨ki_179_204, ⟨kbadG, ⟨ki_179_206, ⟨kbadG, trivial⟩⟩⟩⟩⟩⟩⟩⟩⟩⟩⟩⟩⟩⟩⟩⟩, ⟨⟨kbadG, ⟨ki_179_209, ⟨ki_179_210, ⟨kbadG, ⟨ki_179_212, ⟨ki_179_213, ⟨kbadG, ⟨kbadG, ⟨ki_179_216, ⟨kbadG, ⟨ki_179_218, ⟨kbadG, ⟨kbadG, ⟨ki_179_221, ⟨ki_179_222, ⟨kbadG, trivial⟩⟩⟩⟩⟩⟩⟩⟩⟩⟩⟩⟩⟩⟩⟩⟩, ⟨⟨ki_179_224, ⟨kbadG, ⟨kbadG, ⟨ki_179_227, ⟨kbadG, ⟨ki_179_229, ⟨kbadG, ⟨kbadG, ⟨ki_179_232, ⟨ki_179_233, ⟨kbadG, ⟨ki_179_235, ⟨kbadG, ⟨kbadG, ⟨ki_179_238, ⟨kbadG, trivial⟩⟩⟩⟩⟩⟩⟩⟩⟩⟩⟩⟩⟩⟩⟩⟩, ⟨⟨ki_179_240, ⟨kbadG, ⟨kbadG, ⟨ki_179_243, ⟨ki_179_244, ⟨kbadG, ⟨ki_179_246, ⟨kbadG, ⟨kbadG, ⟨ki_179_249, ⟨kbadG, ⟨kbadG, ⟨ki_179_252, ⟨ki_179_253, ⟨kbadG, ⟨kbadG, trivial⟩⟩⟩⟩⟩⟩⟩⟩⟩⟩⟩⟩⟩⟩⟩⟩, ⟨⟨ki_179_256, ⟨ki_179_257, ⟨ki_179_258, ⟨kbadG, ⟨kbadG, ⟨ki_179_261, ⟨kbadG, ⟨kbadG, ⟨ki_179_264, ⟨kbadG, ⟨ki_179_266, ⟨kbadG, ⟨kbadG, ⟨ki_179_269, ⟨ki_179_270, ⟨ki_179_271, trivial⟩⟩⟩⟩⟩⟩⟩⟩⟩⟩⟩⟩⟩⟩⟩⟩, ⟨⟨kbadG, ⟨ki_179_273, ⟨kbadG, ⟨kbadG, ⟨ki_179_276, ⟨kbadG, ⟨ki_179_278, ⟨ki_179_279, ⟨ki_179_280, ⟨kbadG, ⟨ki_179_282, ⟨kbadG, ⟨kbadG, ⟨ki_179_285, ⟨kbadG, ⟨ki_179_287, trivial⟩⟩⟩⟩⟩⟩⟩⟩⟩⟩⟩⟩⟩⟩⟩⟩, ⟨⟨ki_179_288, ⟨kbadG, ⟨kbadG, ⟨ki_179_291, ⟨kbadG, ⟨ki_179_293, ⟨kbadG, ⟨kbadG, ⟨ki_179_296, ⟨ki_179_297, ⟨kbadG, ⟨ki_179_299, ⟨ki_179_300, ⟨kbadG, ⟨kbadG, ⟨ki_179_303, trivial⟩⟩⟩⟩⟩⟩⟩⟩⟩⟩⟩⟩⟩⟩⟩⟩, ⟨⟨kbadG, ⟨ki_179_305, ⟨kbadG, ⟨kbadG, ⟨ki_179_308, ⟨ki_179_309, ⟨kbadG, ⟨ki_179_311, ⟨ki_179_312, ⟨kbadG, ⟨kbadG, ⟨ki_179_315, ⟨kbadG, ⟨ki_179_317, ⟨kbadG, ⟨kbadG, trivial⟩⟩⟩⟩⟩⟩⟩⟩⟩⟩⟩⟩⟩⟩⟩⟩, ⟨⟨ki_179_320, ⟨ki_179_321, ⟨ki_179_322, ⟨kbadG, ⟨kbadG, ⟨ki_179_325, ⟨kbadG, ⟨kbadG, ⟨ki_179_328, ⟨ki_179_329, ⟨kbadG, ⟨kbadG, ⟨ki_179_332, ⟨ki_179_333, ⟨kbadG, ⟨kbadG, trivial⟩⟩⟩⟩⟩⟩⟩⟩⟩⟩⟩⟩⟩⟩⟩⟩, ⟨⟨ki_179_336, ⟨ki_179_337, ⟨kbadG, ⟨kbadG, ⟨ki_179_340, ⟨ki_179_341, ⟨kbadG, ⟨kbadG, ⟨ki_179_344, ⟨ki_179_345, ⟨ki_179_346, ⟨kbadG, ⟨kbadG, ⟨ki_179_349, ⟨kbadG, ⟨ki_179_351, trivial⟩⟩⟩⟩⟩⟩⟩⟩⟩⟩⟩⟩⟩⟩⟩⟩, ⟨⟨kbadG, ⟨kbadG, ⟨ki_179_354, ⟨ki_179_355, ⟨ki_179_356, ⟨kbadG, ⟨kbadG, ⟨ki_179_359, ⟨kbadG, ⟨ki_179_361, ⟨kbadG, ⟨kbadG, ⟨ki_179_364, ⟨ki_179_365, ⟨kbadG, ⟨kbadG, trivial⟩⟩⟩⟩⟩⟩⟩⟩⟩⟩⟩⟩⟩⟩⟩⟩, ⟨⟨ki_179_368, ⟨kbadG, ⟨ki_179_370, ⟨kbadG, ⟨kbadG, ⟨ki_179_373, ⟨ki_179_374, ⟨ki_179_375, ⟨kbadG, ⟨ki_179_377, ⟨kbadG, ⟨kbadG, ⟨ki_179_380, ⟨kbadG, ⟨ki_179_382, ⟨kbadG, trivial⟩⟩⟩⟩⟩⟩⟩⟩⟩⟩⟩⟩⟩⟩⟩⟩, ⟨⟨kbadG, ⟨ki_179_385, ⟨ki_179_386, ⟨kbadG, ⟨kbadG, ⟨ki_179_389, ⟨ki_179_390, trivial⟩⟩⟩⟩⟩⟩⟩, trivial⟩⟩⟩⟩⟩⟩⟩⟩⟩⟩⟩⟩⟩⟩⟩⟩⟩⟩⟩⟩⟩⟩⟩⟩⟩)
set_option maxRecDepth 20000 in
theorem d_180_0 : decode (js_b 180) 0 = .ok (.lconst 0, 1) := by decide +kernel
set_option maxRecDepth 20000 in
theorem d_180_1 : decode (js_b 180) 1 = .ok (.lstore_n 1, 1) := by decide +kernel
set_option maxRecDepth 20000 in
theorem d_180_2 : decode (js_b 180) 2 = .ok (.lconst 0, 1) := by decide +kernel
set_option maxRecDepth 20000 in
theorem d_180_3 : decode (js_b 180) 3 = .ok (.lstore_n 3, 1) := by decide +kernel
set_option maxRecDepth 20000 in
theorem d_180_4 : decode (js_b 180) 4 = .ok (.iconst 0, 1) := by decide +kernel
set_option maxRecDepth 20000 in
theorem d_180_5 : decode (js_b 180) 5 = .ok (.istore 5, 2) := by decide +kernel
set_option maxRecDepth 20000 in
theorem d_180_7 : decode (js_b 180) 7 = .ok (.bipush 6, 2) := by decide +kernel
set_option maxRecDepth 20000 in
theorem d_180_9 : decode (js_b 180) 9 = .ok (.newarray .long, 2) := by decide +kernel
set_option maxRecDepth 20000 in
theorem d_180_11 : decode (js_b 180) 11 = .ok (.astore 6, 2) := by decide +kernel
set_option maxRecDepth 20000 in
theorem d_180_13 : decode (js_b 180) 13 = .ok (.iconst 0, 1) := by decide +kernel
set_option maxRecDepth 20000 in
theorem d_180_14 : decode (js_b 180) 14 = .ok (.istore 7, 2) := by decide +kernel
set_option maxRecDepth 20000 in
theorem d_180_16 : decode (js_b 180) 16 = .ok (.iload 7, 2) := by decide +kernel
set_option maxRecDepth 20000 in
theorem d_180_18 : decode (js_b 180) 18 = .ok (.bipush 64, 2) := by decide +kernel
set_option maxRecDepth 20000 in
theorem d_180_20 : decode (js_b 180) 20 = .ok (.if_icmp .ge 265, 3) := by decide +kernel
set_option maxRecDepth 20000 in
theorem d_180_23 : decode (js_b 180) 23 = .ok (.iload 7, 2) := by decide +kernel
set_option maxRecDepth 20000 in
theorem d_180_25 : decode (js_b 180) 25 = .ok (.bipush 8, 2) := by decide +kernel
set_option maxRecDepth 20000 in
theorem d_180_27 : decode (js_b 180) 27 = .ok (.idiv, 1) := by decide +kernel
set_option maxRecDepth 20000 in
theorem d_180_28 : decode (js_b 180) 28 = .ok (.istore 8, 2) := by decide +kernel
set_option maxRecDepth 20000 in
theorem d_180_30 : decode (js_b 180) 30 = .ok (.iload 7, 2) := by decide +kernel
set_option maxRecDepth 20000 in
theorem d_180_32 : decode (js_b 180) 32 = .ok (.bipush 8, 2) := by decide +kernel
set_option maxRecDepth 20000 in
theorem d_180_34 : decode (js_b 180) 34 = .ok (.irem, 1) := by decide +kernel
set_option maxRecDepth 20000 in
theorem d_180_35 : decode (js_b 180) 35 = .ok (.istore 9, 2) := by decide +kernel
set_option maxRecDepth 20000 in
theorem d_180_37 : decode (js_b 180) 37 = .ok (.aload_n 0, 1) := by decide +kernel
set_option maxRecDepth 20000 in
theorem d_180_38 : decode (js_b 180) 38 = .ok (.iload 8, 2) := by decide +kernel
set_option maxRecDepth 20000 in
theorem d_180_40 : decode (js_b 180) 40 = .ok (.iload 9, 2) := by decide +kernel
set_option maxRecDepth 20000 in
theorem d_180_42 : decode (js_b 180) 42 = .ok (.invokestatic 175, 3) := by decide +kernel
set_option maxRecDepth 20000 in
theorem d_180_45 : decode (js_b 180) 45 = .ok (.istore 10, 2) := by decide +kernel
set_option maxRecDepth 20000 in
theorem d_180_47 : decode (js_b 180) 47 = .ok (.aload_n 0, 1) := by decide +kernel
set_option maxRecDepth 20000 in
theorem d_180_48 : decode (js_b 180) 48 = .ok (.iload 8, 2) := by decide +kernel
set_option maxRecDepth 20000 in
theorem d_180_50 : decode (js_b 180) 50 = .ok (.iload 9, 2) := by decide +kernel
set_option maxRecDepth 20000 in
theorem d_180_52 : decode (js_b 180) 52 = .ok (.invokestatic 256, 3) := by decide +kernel
set_option maxRecDepth 20000 in
theorem d_180_55 : decode (js_b 180) 55 = .ok (.istore 11, 2) := by decide +kernel
set_option maxRecDepth 20000 in
theorem d_180_57 : decode (js_b 180) 57 = .ok (.lload_n 1, 1) := by decide +kernel
set_option maxRecDepth 20000 in
theorem d_180_58 : decode (js_b 180) 58 = .ok (.iload 10, 2) := by decide +kernel
set_option maxRecDepth 20000 in
theorem d_180_60 : decode (js_b 180) 60 = .ok (.ifCond .lt 10, 3) := by decide +kernel
set_option maxRecDepth 20000 in
theorem d_180_63 : decode (js_b 180) 63 = .ok (.lconst 1, 1) := by decide +kernel
set_option maxRecDepth 20000 in
theorem d_180_64 : decode (js_b 180) 64 = .ok (.iload 7, 2) := by decide +kernel
set_option maxRecDepth 20000 in
theorem d_180_66 : decode (js_b 180) 66 = .ok (.lshl, 1) := by decide +kernel
set_option maxRecDepth 20000 in
theorem d_180_67 : decode (js_b 180) 67 = .ok (.goto 4, 3) := by decide +kernel
set_option maxRecDepth 20000 in
theorem d_180_70 : decode (js_b 180) 70 = .ok (.lconst 0, 1) := by decide +kernel
set_option maxRecDepth 20000 in
theorem d_180_71 : decode (js_b 180) 71 = .ok (.lor, 1) := by decide +kernel
set_option maxRecDepth 20000 in
theorem d_180_72 : decode (js_b 180) 72 = .ok (.lstore_n 1, 1) := by decide +kernel
set_option maxRecDepth 20000 in
theorem d_180_73 : decode (js_b 180) 73 = .ok (.lload_n 3, 1) := by decide +kernel
set_option maxRecDepth 20000 in
theorem d_180_74 : decode (js_b 180) 74 = .ok (.iload 11, 2) := by decide +kernel
set_option maxRecDepth 20000 in
theorem d_180_76 : decode (js_b 180) 76 = .ok (.ifCond .eq 10, 3) := by decide +kernel
set_option maxRecDepth 20000 in
theorem d_180_79 : decode (js_b 180) 79 = .ok (.lconst 1, 1) := by decide +kernel
set_option maxRecDepth 20000 in
theorem d_180_80 : decode (js_b 180) 80 = .ok (.iload 7, 2) := by decide +kernel
set_option maxRecDepth 20000 in
theorem d_180_82 : decode (js_b 180) 82 = .ok (.lshl, 1) := by decide +kernel
set_option maxRecDepth 20000 in
theorem d_180_83 : decode (js_b 180) 83 = .ok (.goto 4, 3) := by decide +kernel
set_option maxRecDepth 20000 in
theorem d_180_86 : decode (js_b 180) 86 = .ok (.lconst 0, 1) := by decide +kernel
set_option maxRecDepth 20000 in
theorem d_180_87 : decode (js_b 180) 87 = .ok (.lor, 1) := by decide +kernel
set_option maxRecDepth 20000 in
theorem d_180_88 : decode (js_b 180) 88 = .ok (.lstore_n 3, 1) := by decide +kernel
set_option maxRecDepth 20000 in
theorem d_180_89 : decode (js_b 180) 89 = .ok (.iload 5, 2) := by decide +kernel
set_option maxRecDepth 20000 in
theorem d_180_91 : decode (js_b 180) 91 = .ok (.iload 11, 2) := by decide +kernel
set_option maxRecDepth 20000 in
theorem d_180_93 : decode (js_b 180) 93 = .ok (.ifCond .eq 7, 3) := by decide +kernel
set_option maxRecDepth 20000 in
theorem d_180_96 : decode (js_b 180) 96 = .ok (.iconst 1, 1) := by decide +kernel
set_option maxRecDepth 20000 in
theorem d_180_97 : decode (js_b 180) 97 = .ok (.goto 4, 3) := by decide +kernel
set_option maxRecDepth 20000 in
theorem d_180_100 : decode (js_b 180) 100 = .ok (.iconst 0, 1) := by decide +kernel
set_option maxRecDepth 20000 in
theorem d_180_101 : decode (js_b 180) 101 = .ok (.iadd, 1) := by decide +kernel
set_option maxRecDepth 20000 in
theorem d_180_102 : decode (js_b 180) 102 = .ok (.istore 5, 2) := by decide +kernel
set_option maxRecDepth 20000 in
theorem d_180_104 : decode (js_b 180) 104 = .ok (.iload 10, 2) := by decide +kernel
set_option maxRecDepth 20000 in
theorem d_180_106 : decode (js_b 180) 106 = .ok (.ifCond .lt 69, 3) := by decide +kernel
set_option maxRecDepth 20000 in
theorem d_180_109 : decode (js_b 180) 109 = .ok (.aload 6, 2) := by decide +kernel
set_option maxRecDepth 20000 in
theorem d_180_111 : decode (js_b 180) 111 = .ok (.aload_n 0, 1) := by decide +kernel
set_option maxRecDepth 20000 in
theorem d_180_112 : decode (js_b 180) 112 = .ok (.iload 10, 2) := by decide +kernel
set_option maxRecDepth 20000 in
theorem d_180_114 : decode (js_b 180) 114 = .ok (.invokestatic 228, 3) := by decide +kernel
set_option maxRecDepth 20000 in
theorem d_180_117 : decode (js_b 180) 117 = .ok (.bipush 97, 2) := by decide +kernel
set_option maxRecDepth 20000 in
theorem d_180_119 : decode (js_b 180) 119 = .ok (.isub, 1) := by decide +kernel
set_option maxRecDepth 20000 in
theorem d_180_120 : decode (js_b 180) 120 = .ok (.dup2, 1) := by decide +kernel
set_option maxRecDepth 20000 in
theorem d_180_121 : decode (js_b 180) 121 = .ok (.laload, 1) := by decide +kernel
set_option maxRecDepth 20000 in
theorem d_180_122 : decode (js_b 180) 122 = .ok (.lconst 1, 1) := by decide +kernel
set_option maxRecDepth 20000 in
theorem d_180_123 : decode (js_b 180) 123 = .ok (.iload 7, 2) := by decide +kernel
set_option maxRecDepth 20000 in
theorem d_180_125 : decode (js_b 180) 125 = .ok (.lshl, 1) := by decide +kernel
set_option maxRecDepth 20000 in
theorem d_180_126 : decode (js_b 180) 126 = .ok (.lor, 1) := by decide +kernel
set_option maxRecDepth 20000 in
theorem d_180_127 : decode (js_b 180) 127 = .ok (.lastore, 1) := by decide +kernel
set_option maxRecDepth 20000 in
theorem d_180_128 : decode (js_b 180) 128 = .ok (.iconst 0, 1) := by decide +kernel
set_option maxRecDepth 20000 in
theorem d_180_129 : decode (js_b 180) 129 = .ok (.istore 12, 2) := by decide +kernel
set_option maxRecDepth 20000 in
theorem d_180_131 : decode (js_b 180) 131 = .ok (.iload 12, 2) := by decide +kernel
set_option maxRecDepth 20000 in
theorem d_180_133 : decode (js_b 180) 133 = .ok (.iconst 4, 1) := by decide +kernel
set_option maxRecDepth 20000 in
theorem d_180_134 : decode (js_b 180) 134 = .ok (.if_icmp .ge 41, 3) := by decide +kernel
set_option maxRecDepth 20000 in
theorem d_180_137 : decode (js_b 180) 137 = .ok (.aload_n 0, 1) := by decide +kernel
set_option maxRecDepth 20000 in
theorem d_180_138 : decode (js_b 180) 138 = .ok (.iload 10, 2) := by decide +kernel
set_option maxRecDepth 20000 in
theorem d_180_140 : decode (js_b 180) 140 = .ok (.iload 12, 2) := by decide +kernel
set_option maxRecDepth 20000 in
theorem d_180_142 : decode (js_b 180) 142 = .ok (.invokestatic 241, 3) := by decide +kernel
set_option maxRecDepth 20000 in
theorem d_180_145 : decode (js_b 180) 145 = .ok (.aload_n 0, 1) := by decide +kernel
set_option maxRecDepth 20000 in
theorem d_180_146 : decode (js_b 180) 146 = .ok (.iload 8, 2) := by decide +kernel
set_option maxRecDepth 20000 in
theorem d_180_148 : decode (js_b 180) 148 = .ok (.iload 9, 2) := by decide +kernel
set_option maxRecDepth 20000 in
theorem d_180_150 : decode (js_b 180) 150 = .ok (.iload 12, 2) := by decide +kernel
set_option maxRecDepth 20000 in
theorem d_180_152 : decode (js_b 180) 152 = .ok (.invokestatic 198, 3) := by decide +kernel
set_option maxRecDepth 20000 in
theorem d_180_155 : decode (js_b 180) 155 = .ok (.iconst 1, 1) := by decide +kernel
set_option maxRecDepth 20000 in
theorem d_180_156 : decode (js_b 180) 156 = .ok (.if_icmp .ne 7, 3) := by decide +kernel
set_option maxRecDepth 20000 in
theorem d_180_159 : decode (js_b 180) 159 = .ok (.iconst 1, 1) := by decide +kernel
set_option maxRecDepth 20000 in
theorem d_180_160 : decode (js_b 180) 160 = .ok (.goto 4, 3) := by decide +kernel
set_option maxRecDepth 20000 in
theorem d_180_163 : decode (js_b 180) 163 = .ok (.iconst 0, 1) := by decide +kernel
set_option maxRecDepth 20000 in
theorem d_180_164 : decode (js_b 180) 164 = .ok (.if_icmp .eq 5, 3) := by decide +kernel
set_option maxRecDepth 20000 in
theorem d_180_167 : decode (js_b 180) 167 = .ok (.iconst 0, 1) := by decide +kernel
set_option maxRecDepth 20000 in
theorem d_180_168 : decode (js_b 180) 168 = .ok (.ireturn, 1) := by decide +kernel
set_option maxRecDepth 20000 in
theorem d_180_169 : decode (js_b 180) 169 = .ok (.iinc 12 1, 3) := by decide +kernel
set_option maxRecDepth 20000 in
theorem d_180_172 : decode (js_b 180) 172 = .ok (.goto (-41), 3) := by decide +kernel
set_option maxRecDepth 20000 in
theorem d_180_175 : decode (js_b 180) 175 = .ok (.aload_n 0, 1) := by decide +kernel
set_option maxRecDepth 20000 in
theorem d_180_176 : decode (js_b 180) 176 = .ok (.iload 8, 2) := by decide +kernel
set_option maxRecDepth 20000 in
theorem d_180_178 : decode (js_b 180) 178 = .ok (.iload 9, 2) := by decide +kernel
set_option maxRecDepth 20000 in
theorem d_180_180 : decode (js_b 180) 180 = .ok (.iconst 1, 1) := by decide +kernel
set_option maxRecDepth 20000 in
theorem d_180_181 : decode (js_b 180) 181 = .ok (.invokestatic 260, 3) := by decide +kernel
set_option maxRecDepth 20000 in
theorem d_180_184 : decode (js_b 180) 184 = .ok (.aload_n 0, 1) := by decide +kernel
set_option maxRecDepth 20000 in
theorem d_180_185 : decode (js_b 180) 185 = .ok (.iload 8, 2) := by decide +kernel
set_option maxRecDepth 20000 in
theorem d_180_187 : decode (js_b 180) 187 = .ok (.iload 9, 2) := by decide +kernel
set_option maxRecDepth 20000 in
theorem d_180_189 : decode (js_b 180) 189 = .ok (.iconst (-1), 1) := by decide +kernel
set_option maxRecDepth 20000 in
theorem d_180_190 : decode (js_b 180) 190 = .ok (.invokestatic 260, 3) := by decide +kernel
set_option maxRecDepth 20000 in
theorem d_180_193 : decode (js_b 180) 193 = .ok (.iadd, 1) := by decide +kernel
set_option maxRecDepth 20000 in
theorem d_180_194 : decode (js_b 180) 194 = .ok (.istore 12, 2) := by decide +kernel
set_option maxRecDepth 20000 in
theorem d_180_196 : decode (js_b 180) 196 = .ok (.aload_n 0, 1) := by decide +kernel
set_option maxRecDepth 20000 in
theorem d_180_197 : decode (js_b 180) 197 = .ok (.iload 8, 2) := by decide +kernel
set_option maxRecDepth 20000 in
theorem d_180_199 : decode (js_b 180) 199 = .ok (.iload 9, 2) := by decide +kernel
set_option maxRecDepth 20000 in
theorem d_180_201 : decode (js_b 180) 201 = .ok (.invokestatic 181, 3) := by decide +kernel
set_option maxRecDepth 20000 in
theorem d_180_204 : decode (js_b 180) 204 = .ok (.iload 10, 2) := by decide +kernel
set_option maxRecDepth 20000 in
theorem d_180_206 : decode (js_b 180) 206 = .ok (.ifCond .ge 7, 3) := by decide +kernel
set_option maxRecDepth 20000 in
theorem d_180_209 : decode (js_b 180) 209 = .ok (.iconst 1, 1) := by decide +kernel
set_option maxRecDepth 20000 in
theorem d_180_210 : decode (js_b 180) 210 = .ok (.goto 4, 3) := by decide +kernel
set_option maxRecDepth 20000 in
theorem d_180_213 : decode (js_b 180) 213 = .ok (.iconst 0, 1) := by decide +kernel
set_option maxRecDepth 20000 in
theorem d_180_214 : decode (js_b 180) 214 = .ok (.if_icmp .ne 63, 3) := by decide +kernel
set_option maxRecDepth 20000 in
theorem d_180_217 : decode (js_b 180) 217 = .ok (.iload 10, 2) := by decide +kernel
set_option maxRecDepth 20000 in
theorem d_180_219 : decode (js_b 180) 219 = .ok (.ifCond .lt 34, 3) := by decide +kernel
set_option maxRecDepth 20000 in
theorem d_180_222 : decode (js_b 180) 222 = .ok (.aload_n 0, 1) := by decide +kernel
set_option maxRecDepth 20000 in
theorem d_180_223 : decode (js_b 180) 223 = .ok (.iload 10, 2) := by decide +kernel
set_option maxRecDepth 20000 in
theorem d_180_225 : decode (js_b 180) 225 = .ok (.invokestatic 243, 3) := by decide +kernel
set_option maxRecDepth 20000 in
theorem d_180_228 : decode (js_b 180) 228 = .ok (.aload_n 0, 1) := by decide +kernel
set_option maxRecDepth 20000 in
theorem d_180_229 : decode (js_b 180) 229 = .ok (.iload 8, 2) := by decide +kernel
set_option maxRecDepth 20000 in
theorem d_180_231 : decode (js_b 180) 231 = .ok (.iload 9, 2) := by decide +kernel
set_option maxRecDepth 20000 in
theorem d_180_233 : decode (js_b 180) 233 = .ok (.iconst (-1), 1) := by decide +kernel
set_option maxRecDepth 20000 in
theorem d_180_234 : decode (js_b 180) 234 = .ok (.invokestatic 260, 3) := by decide +kernel
set_option maxRecDepth 20000 in
theorem d_180_237 : decode (js_b 180) 237 = .ok (.if_icmp .ne 40, 3) := by decide +kernel
set_option maxRecDepth 20000 in
theorem d_180_240 : decode (js_b 180) 240 = .ok (.aload_n 0, 1) := by decide +kernel
set_option maxRecDepth 20000 in
theorem d_180_241 : decode (js_b 180) 241 = .ok (.iload 8, 2) := by decide +kernel
set_option maxRecDepth 20000 in
theorem d_180_243 : decode (js_b 180) 243 = .ok (.iload 9, 2) := by decide +kernel
set_option maxRecDepth 20000 in
theorem d_180_245 : decode (js_b 180) 245 = .ok (.invokestatic 263, 3) := by decide +kernel
set_option maxRecDepth 20000 in
theorem d_180_248 : decode (js_b 180) 248 = .ok (.bipush (-15), 2) := by decide +kernel
set_option maxRecDepth 20000 in
theorem d_180_250 : decode (js_b 180) 250 = .ok (.if_icmp .ne 27, 3) := by decide +kernel
set_option maxRecDepth 20000 in
theorem d_180_253 : decode (js_b 180) 253 = .ok (.iload 11, 2) := by decide +kernel
set_option maxRecDepth 20000 in
theorem d_180_255 : decode (js_b 180) 255 = .ok (.ifCond .ne 16, 3) := by decide +kernel
set_option maxRecDepth 20000 in
theorem d_180_258 : decode (js_b 180) 258 = .ok (.aload_n 0, 1) := by decide +kernel
set_option maxRecDepth 20000 in
theorem d_180_259 : decode (js_b 180) 259 = .ok (.iload 8, 2) := by decide +kernel
set_option maxRecDepth 20000 in
theorem d_180_261 : decode (js_b 180) 261 = .ok (.iload 9, 2) := by decide +kernel
set_option maxRecDepth 20000 in
theorem d_180_263 : decode (js_b 180) 263 = .ok (.invokestatic 263, 3) := by decide +kernel
set_option maxRecDepth 20000 in
theorem d_180_266 : decode (js_b 180) 266 = .ok (.bipush (-15), 2) := by decide +kernel
set_option maxRecDepth 20000 in
theorem d_180_268 : decode (js_b 180) 268 = .ok (.if_icmp .ne 9, 3) := by decide +kernel
set_option maxRecDepth 20000 in
theorem d_180_271 : decode (js_b 180) 271 = .ok (.iload 12, 2) := by decide +kernel
set_option maxRecDepth 20000 in
theorem d_180_273 : decode (js_b 180) 273 = .ok (.iconst 4, 1) := by decide +kernel
set_option maxRecDepth 20000 in
theorem d_180_274 : decode (js_b 180) 274 = .ok (.if_icmp .le 5, 3) := by decide +kernel
set_option maxRecDepth 20000 in
theorem d_180_277 : decode (js_b 180) 277 = .ok (.iconst 0, 1) := by decide +kernel
set_option maxRecDepth 20000 in
theorem d_180_278 : decode (js_b 180) 278 = .ok (.ireturn, 1) := by decide +kernel
set_option maxRecDepth 20000 in
theorem d_180_279 : decode (js_b 180) 279 = .ok (.iinc 7 1, 3) := by decide +kernel
set_option maxRecDepth 20000 in
theorem d_180_282 : decode (js_b 180) 282 = .ok (.goto (-266), 3) := by decide +kernel
set_option maxRecDepth 20000 in
theorem d_180_285 : decode (js_b 180) 285 = .ok (.iconst 0, 1) := by decide +kernel
set_option maxRecDepth 20000 in
theorem d_180_286 : decode (js_b 180) 286 = .ok (.istore 7, 2) := by decide +kernel
set_option maxRecDepth 20000 in
theorem d_180_288 : decode (js_b 180) 288 = .ok (.iload 7, 2) := by decide +kernel
set_option maxRecDepth 20000 in
theorem d_180_290 : decode (js_b 180) 290 = .ok (.bipush 6, 2) := by decide +kernel
set_option maxRecDepth 20000 in
theorem d_180_292 : decode (js_b 180) 292 = .ok (.if_icmp .ge 30, 3) := by decide +kernel
set_option maxRecDepth 20000 in
theorem d_180_295 : decode (js_b 180) 295 = .ok (.aload_n 0, 1) := by decide +kernel
set_option maxRecDepth 20000 in
theorem d_180_296 : decode (js_b 180) 296 = .ok (.bipush 97, 2) := by decide +kernel
set_option maxRecDepth 20000 in
theorem d_180_298 : decode (js_b 180) 298 = .ok (.iload 7, 2) := by decide +kernel
set_option maxRecDepth 20000 in
theorem d_180_300 : decode (js_b 180) 300 = .ok (.iadd, 1) := by decide +kernel
set_option maxRecDepth 20000 in
theorem d_180_301 : decode (js_b 180) 301 = .ok (.i2c, 1) := by decide +kernel
set_option maxRecDepth 20000 in
theorem d_180_302 : decode (js_b 180) 302 = .ok (.invokestatic 266, 3) := by decide +kernel
set_option maxRecDepth 20000 in
theorem d_180_305 : decode (js_b 180) 305 = .ok (.aload 6, 2) := by decide +kernel
set_option maxRecDepth 20000 in
theorem d_180_307 : decode (js_b 180) 307 = .ok (.iload 7, 2) := by decide +kernel
set_option maxRecDepth 20000 in
theorem d_180_309 : decode (js_b 180) 309 = .ok (.laload, 1) := by decide +kernel
set_option maxRecDepth 20000 in
theorem d_180_310 : decode (js_b 180) 310 = .ok (.lcmp, 1) := by decide +kernel
set_option maxRecDepth 20000 in
theorem d_180_311 : decode (js_b 180) 311 = .ok (.ifCond .eq 5, 3) := by decide +kernel
set_option maxRecDepth 20000 in
theorem d_180_314 : decode (js_b 180) 314 = .ok (.iconst 0, 1) := by decide +kernel
set_option maxRecDepth 20000 in
theorem d_180_315 : decode (js_b 180) 315 = .ok (.ireturn, 1) := by decide +kernel
set_option maxRecDepth 20000 in
theorem d_180_316 : decode (js_b 180) 316 = .ok (.iinc 7 1, 3) := by decide +kernel
set_option maxRecDepth 20000 in
theorem d_180_319 : decode (js_b 180) 319 = .ok (.goto (-31), 3) := by decide +kernel
set_option maxRecDepth 20000 in
theorem d_180_322 : decode (js_b 180) 322 = .ok (.aload_n 0, 1) := by decide +kernel
set_option maxRecDepth 20000 in
theorem d_180_323 : decode (js_b 180) 323 = .ok (.iconst 1, 1) := by decide +kernel
set_option maxRecDepth 20000 in
theorem d_180_324 : decode (js_b 180) 324 = .ok (.invokestatic 269, 3) := by decide +kernel
set_option maxRecDepth 20000 in
theorem d_180_327 : decode (js_b 180) 327 = .ok (.istore 7, 2) := by decide +kernel
set_option maxRecDepth 20000 in
theorem d_180_329 : decode (js_b 180) 329 = .ok (.aload_n 0, 1) := by decide +kernel
set_option maxRecDepth 20000 in
theorem d_180_330 : decode (js_b 180) 330 = .ok (.iconst (-1), 1) := by decide +kernel
set_option maxRecDepth 20000 in
theorem d_180_331 : decode (js_b 180) 331 = .ok (.invokestatic 269, 3) := by decide +kernel
set_option maxRecDepth 20000 in
theorem d_180_334 : decode (js_b 180) 334 = .ok (.istore 8, 2) := by decide +kernel
set_option maxRecDepth 20000 in
theorem d_180_336 : decode (js_b 180) 336 = .ok (.aload_n 0, 1) := by decide +kernel
set_option maxRecDepth 20000 in
theorem d_180_337 : decode (js_b 180) 337 = .ok (.invokevirtual 250, 3) := by decide +kernel
set_option maxRecDepth 20000 in
theorem d_180_340 : decode (js_b 180) 340 = .ok (.aload_n 0, 1) := by decide +kernel
set_option maxRecDepth 20000 in
theorem d_180_341 : decode (js_b 180) 341 = .ok (.invokevirtual 193, 3) := by decide +kernel
set_option maxRecDepth 20000 in
theorem d_180_344 : decode (js_b 180) 344 = .ok (.isub, 1) := by decide +kernel
set_option maxRecDepth 20000 in
theorem d_180_345 : decode (js_b 180) 345 = .ok (.istore 9, 2) := by decide +kernel
set_option maxRecDepth 20000 in
theorem d_180_347 : decode (js_b 180) 347 = .ok (.iload 7, 2) := by decide +kernel
set_option maxRecDepth 20000 in
theorem d_180_349 : decode (js_b 180) 349 = .ok (.iload 8, 2) := by decide +kernel
set_option maxRecDepth 20000 in
theorem d_180_351 : decode (js_b 180) 351 = .ok (.iadd, 1) := by decide +kernel
set_option maxRecDepth 20000 in
theorem d_180_352 : decode (js_b 180) 352 = .ok (.ifCond .eq 41, 3) := by decide +kernel
set_option maxRecDepth 20000 in
theorem d_180_355 : decode (js_b 180) 355 = .ok (.aload_n 0, 1) := by decide +kernel
set_option maxRecDepth 20000 in
theorem d_180_356 : decode (js_b 180) 356 = .ok (.invokevirtual 272, 3) := by decide +kernel
set_option maxRecDepth 20000 in
theorem d_180_359 : decode (js_b 180) 359 = .ok (.iload 7, 2) := by decide +kernel
set_option maxRecDepth 20000 in
theorem d_180_361 : decode (js_b 180) 361 = .ok (.i2f, 1) := by decide +kernel
set_option maxRecDepth 20000 in
theorem d_180_362 : decode (js_b 180) 362 = .ok (.iload 7, 2) := by decide +kernel
set_option maxRecDepth 20000 in
theorem d_180_364 : decode (js_b 180) 364 = .ok (.iload 8, 2) := by decide +kernel
set_option maxRecDepth 20000 in
theorem d_180_366 : decode (js_b 180) 366 = .ok (.iadd, 1) := by decide +kernel
set_option maxRecDepth 20000 in
theorem d_180_367 : decode (js_b 180) 367 = .ok (.i2f, 1) := by decide +kernel
set_option maxRecDepth 20000 in
theorem d_180_368 : decode (js_b 180) 368 = .ok (.fdiv, 1) := by decide +kernel
set_option maxRecDepth 20000 in
theorem d_180_369 : decode (js_b 180) 369 = .ok (.fcmp .l, 1) := by decide +kernel
set_option maxRecDepth 20000 in
theorem d_180_370 : decode (js_b 180) 370 = .ok (.ifCond .ne 27, 3) := by decide +kernel
set_option maxRecDepth 20000 in
theorem d_180_373 : decode (js_b 180) 373 = .ok (.aload_n 0, 1) := by decide +kernel
set_option maxRecDepth 20000 in
theorem d_180_374 : decode (js_b 180) 374 = .ok (.invokevirtual 276, 3) := by decide +kernel
set_option maxRecDepth 20000 in
theorem d_180_377 : decode (js_b 180) 377 = .ok (.iload 7, 2) := by decide +kernel
set_option maxRecDepth 20000 in
theorem d_180_379 : decode (js_b 180) 379 = .ok (.i2f, 1) := by decide +kernel
set_option maxRecDepth 20000 in
theorem d_180_380 : decode (js_b 180) 380 = .ok (.iload 7, 2) := by decide +kernel
set_option maxRecDepth 20000 in
theorem d_180_382 : decode (js_b 180) 382 = .ok (.iload 8, 2) := by decide +kernel
set_option maxRecDepth 20000 in
theorem d_180_384 : decode (js_b 180) 384 = .ok (.iadd, 1) := by decide +kernel
set_option maxRecDepth 20000 in
theorem d_180_385 : decode (js_b 180) 385 = .ok (.i2f, 1) := by decide +kernel
set_option maxRecDepth 20000 in
theorem d_180_386 : decode (js_b 180) 386 = .ok (.fdiv, 1) := by decide +kernel
set_option maxRecDepth 20000 in
theorem d_180_387 : decode (js_b 180) 387 = .ok (.invokestatic 279, 3) := by decide +kernel
set_option maxRecDepth 20000 in
theorem d_180_390 : decode (js_b 180) 390 = .ok (.if_icmp .ne 7, 3) := by decide +kernel
set_option maxRecDepth 20000 in
theorem d_180_393 : decode (js_b 180) 393 = .ok (.iconst 1, 1) := by decide +kernel
set_option maxRecDepth 20000 in
theorem d_180_394 : decode (js_b 180) 394 = .ok (.goto 4, 3) := by decide +kernel
set_option maxRecDepth 20000 in
theorem d_180_397 : decode (js_b 180) 397 = .ok (.iconst 0, 1) := by decide +kernel
set_option maxRecDepth 20000 in
theorem d_180_398 : decode (js_b 180) 398 = .ok (.istore 10, 2) := by decide +kernel
set_option maxRecDepth 20000 in
theorem d_180_400 : decode (js_b 180) 400 = .ok (.iload 9, 2) := by decide +kernel
set_option maxRecDepth 20000 in
theorem d_180_402 : decode (js_b 180) 402 = .ok (.ifCond .eq 20, 3) := by decide +kernel
set_option maxRecDepth 20000 in
theorem d_180_405 : decode (js_b 180) 405 = .ok (.aload_n 0, 1) := by decide +kernel
set_option maxRecDepth 20000 in
theorem d_180_406 : decode (js_b 180) 406 = .ok (.invokevirtual 285, 3) := by decide +kernel
set_option maxRecDepth 20000 in
theorem d_180_409 : decode (js_b 180) 409 = .ok (.iconst 2, 1) := by decide +kernel
set_option maxRecDepth 20000 in
theorem d_180_410 : decode (js_b 180) 410 = .ok (.iload 7, 2) := by decide +kernel
set_option maxRecDepth 20000 in
theorem d_180_412 : decode (js_b 180) 412 = .ok (.imul, 1) := by decide +kernel
set_option maxRecDepth 20000 in
theorem d_180_413 : decode (js_b 180) 413 = .ok (.i2d, 1) := by decide +kernel
set_option maxRecDepth 20000 in
theorem d_180_414 : decode (js_b 180) 414 = .ok (.iload 9, 2) := by decide +kernel
set_option maxRecDepth 20000 in
theorem d_180_416 : decode (js_b 180) 416 = .ok (.i2d, 1) := by decide +kernel
set_option maxRecDepth 20000 in
theorem d_180_417 : decode (js_b 180) 417 = .ok (.ddiv, 1) := by decide +kernel
set_option maxRecDepth 20000 in
theorem d_180_418 : decode (js_b 180) 418 = .ok (.dcmp .l, 1) := by decide +kernel
set_option maxRecDepth 20000 in
theorem d_180_419 : decode (js_b 180) 419 = .ok (.ifCond .ne 7, 3) := by decide +kernel
set_option maxRecDepth 20000 in
theorem d_180_422 : decode (js_b 180) 422 = .ok (.iconst 1, 1) := by decide +kernel
set_option maxRecDepth 20000 in
theorem d_180_423 : decode (js_b 180) 423 = .ok (.goto 4, 3) := by decide +kernel
set_option maxRecDepth 20000 in
theorem d_180_426 : decode (js_b 180) 426 = .ok (.iconst 0, 1) := by decide +kernel
set_option maxRecDepth 20000 in
theorem d_180_427 : decode (js_b 180) 427 = .ok (.istore 11, 2) := by decide +kernel
set_option maxRecDepth 20000 in
theorem d_180_429 : decode (js_b 180) 429 = .ok (.iload 10, 2) := by decide +kernel
set_option maxRecDepth 20000 in
theorem d_180_431 : decode (js_b 180) 431 = .ok (.ifCond .eq 125, 3) := by decide +kernel
set_option maxRecDepth 20000 in
theorem d_180_434 : decode (js_b 180) 434 = .ok (.iload 11, 2) := by decide +kernel
set_option maxRecDepth 20000 in
theorem d_180_436 : decode (js_b 180) 436 = .ok (.ifCond .eq 120, 3) := by decide +kernel
set_option maxRecDepth 20000 in
theorem d_180_439 : decode (js_b 180) 439 = .ok (.aload_n 0, 1) := by decide +kernel
set_option maxRecDepth 20000 in
theorem d_180_440 : decode (js_b 180) 440 = .ok (.invokevirtual 289, 3) := by decide +kernel
set_option maxRecDepth 20000 in
theorem d_180_443 : decode (js_b 180) 443 = .ok (.lload_n 1, 1) := by decide +kernel
set_option maxRecDepth 20000 in
theorem d_180_444 : decode (js_b 180) 444 = .ok (.lcmp, 1) := by decide +kernel
set_option maxRecDepth 20000 in
theorem d_180_445 : decode (js_b 180) 445 = .ok (.ifCond .ne 111, 3) := by decide +kernel
set_option maxRecDepth 20000 in
theorem d_180_448 : decode (js_b 180) 448 = .ok (.aload_n 0, 1) := by decide +kernel
set_option maxRecDepth 20000 in
theorem d_180_449 : decode (js_b 180) 449 = .ok (.invokevirtual 293, 3) := by decide +kernel
set_option maxRecDepth 20000 in
theorem d_180_452 : decode (js_b 180) 452 = .ok (.lload_n 3, 1) := by decide +kernel
set_option maxRecDepth 20000 in
theorem d_180_453 : decode (js_b 180) 453 = .ok (.lcmp, 1) := by decide +kernel
set_option maxRecDepth 20000 in
theorem d_180_454 : decode (js_b 180) 454 = .ok (.ifCond .ne 102, 3) := by decide +kernel
set_option maxRecDepth 20000 in
theorem d_180_457 : decode (js_b 180) 457 = .ok (.aload_n 0, 1) := by decide +kernel
set_option maxRecDepth 20000 in
theorem d_180_458 : decode (js_b 180) 458 = .ok (.invokevirtual 296, 3) := by decide +kernel
set_option maxRecDepth 20000 in
theorem d_180_461 : decode (js_b 180) 461 = .ok (.lload_n 3, 1) := by decide +kernel
set_option maxRecDepth 20000 in
theorem d_180_462 : decode (js_b 180) 462 = .ok (.lcmp, 1) := by decide +kernel
set_option maxRecDepth 20000 in
theorem d_180_463 : decode (js_b 180) 463 = .ok (.ifCond .ne 93, 3) := by decide +kernel
set_option maxRecDepth 20000 in
theorem d_180_466 : decode (js_b 180) 466 = .ok (.aload_n 0, 1) := by decide +kernel
set_option maxRecDepth 20000 in
theorem d_180_467 : decode (js_b 180) 467 = .ok (.invokevirtual 299, 3) := by decide +kernel
set_option maxRecDepth 20000 in
theorem d_180_470 : decode (js_b 180) 470 = .ok (.iload 5, 2) := by decide +kernel
set_option maxRecDepth 20000 in
theorem d_180_472 : decode (js_b 180) 472 = .ok (.if_icmp .ne 84, 3) := by decide +kernel
set_option maxRecDepth 20000 in
theorem d_180_475 : decode (js_b 180) 475 = .ok (.aload_n 0, 1) := by decide +kernel
set_option maxRecDepth 20000 in
theorem d_180_476 : decode (js_b 180) 476 = .ok (.invokevirtual 302, 3) := by decide +kernel
set_option maxRecDepth 20000 in
theorem d_180_479 : decode (js_b 180) 479 = .ok (.iload 7, 2) := by decide +kernel
set_option maxRecDepth 20000 in
theorem d_180_481 : decode (js_b 180) 481 = .ok (.if_icmp .ne 75, 3) := by decide +kernel
set_option maxRecDepth 20000 in
theorem d_180_484 : decode (js_b 180) 484 = .ok (.aload_n 0, 1) := by decide +kernel
set_option maxRecDepth 20000 in
theorem d_180_485 : decode (js_b 180) 485 = .ok (.invokevirtual 305, 3) := by decide +kernel
set_option maxRecDepth 20000 in
theorem d_180_488 : decode (js_b 180) 488 = .ok (.iload 8, 2) := by decide +kernel
set_option maxRecDepth 20000 in
theorem d_180_490 : decode (js_b 180) 490 = .ok (.if_icmp .ne 66, 3) := by decide +kernel
set_option maxRecDepth 20000 in
theorem d_180_493 : decode (js_b 180) 493 = .ok (.aload_n 0, 1) := by decide +kernel
set_option maxRecDepth 20000 in
theorem d_180_494 : decode (js_b 180) 494 = .ok (.bipush 103, 2) := by decide +kernel
set_option maxRecDepth 20000 in
theorem d_180_496 : decode (js_b 180) 496 = .ok (.invokestatic 266, 3) := by decide +kernel
set_option maxRecDepth 20000 in
theorem d_180_499 : decode (js_b 180) 499 = .ok (.ldc2_w 130, 3) := by decide +kernel
set_option maxRecDepth 20000 in
theorem d_180_502 : decode (js_b 180) 502 = .ok (.lcmp, 1) := by decide +kernel
set_option maxRecDepth 20000 in
theorem d_180_503 : decode (js_b 180) 503 = .ok (.ifCond .ne 53, 3) := by decide +kernel
set_option maxRecDepth 20000 in
theorem d_180_506 : decode (js_b 180) 506 = .ok (.aload_n 0, 1) := by decide +kernel
set_option maxRecDepth 20000 in
theorem d_180_507 : decode (js_b 180) 507 = .ok (.bipush 8, 2) := by decide +kernel
set_option maxRecDepth 20000 in
theorem d_180_509 : decode (js_b 180) 509 = .ok (.iconst 0, 1) := by decide +kernel
set_option maxRecDepth 20000 in
theorem d_180_510 : decode (js_b 180) 510 = .ok (.invokestatic 175, 3) := by decide +kernel
set_option maxRecDepth 20000 in
theorem d_180_513 : decode (js_b 180) 513 = .ok (.bipush (-11), 2) := by decide +kernel
set_option maxRecDepth 20000 in
theorem d_180_515 : decode (js_b 180) 515 = .ok (.if_icmp .ne 41, 3) := by decide +kernel
set_option maxRecDepth 20000 in
theorem d_180_518 : decode (js_b 180) 518 = .ok (.aload_n 0, 1) := by decide +kernel
set_option maxRecDepth 20000 in
theorem d_180_519 : decode (js_b 180) 519 = .ok (.iconst 0, 1) := by decide +kernel
set_option maxRecDepth 20000 in
theorem d_180_520 : decode (js_b 180) 520 = .ok (.iconst (-1), 1) := by decide +kernel
set_option maxRecDepth 20000 in
theorem d_180_521 : decode (js_b 180) 521 = .ok (.invokestatic 175, 3) := by decide +kernel
set_option maxRecDepth 20000 in
theorem d_180_524 : decode (js_b 180) 524 = .ok (.bipush (-11), 2) := by decide +kernel
set_option maxRecDepth 20000 in
theorem d_180_526 : decode (js_b 180) 526 = .ok (.if_icmp .ne 30, 3) := by decide +kernel
set_option maxRecDepth 20000 in
theorem d_180_529 : decode (js_b 180) 529 = .ok (.aload_n 0, 1) := by decide +kernel
set_option maxRecDepth 20000 in
theorem d_180_530 : decode (js_b 180) 530 = .ok (.iconst (-1), 1) := by decide +kernel
set_option maxRecDepth 20000 in
theorem d_180_531 : decode (js_b 180) 531 = .ok (.iconst 0, 1) := by decide +kernel
set_option maxRecDepth 20000 in
theorem d_180_532 : decode (js_b 180) 532 = .ok (.invokestatic 181, 3) := by decide +kernel
set_option maxRecDepth 20000 in
theorem d_180_535 : decode (js_b 180) 535 = .ok (.bipush (-11), 2) := by decide +kernel
set_option maxRecDepth 20000 in
theorem d_180_537 : decode (js_b 180) 537 = .ok (.if_icmp .ne 19, 3) := by decide +kernel
set_option maxRecDepth 20000 in
theorem d_180_540 : decode (js_b 180) 540 = .ok (.aload_n 0, 1) := by decide +kernel
set_option maxRecDepth 20000 in
theorem d_180_541 : decode (js_b 180) 541 = .ok (.iconst 0, 1) := by decide +kernel
set_option maxRecDepth 20000 in
theorem d_180_542 : decode (js_b 180) 542 = .ok (.bipush 8, 2) := by decide +kernel
set_option maxRecDepth 20000 in
theorem d_180_544 : decode (js_b 180) 544 = .ok (.invokestatic 263, 3) := by decide +kernel
set_option maxRecDepth 20000 in
theorem d_180_547 : decode (js_b 180) 547 = .ok (.bipush (-11), 2) := by decide +kernel
set_option maxRecDepth 20000 in
theorem d_180_549 : decode (js_b 180) 549 = .ok (.if_icmp .ne 7, 3) := by decide +kernel
set_option maxRecDepth 20000 in
theorem d_180_552 : decode (js_b 180) 552 = .ok (.iconst 1, 1) := by decide +kernel
set_option maxRecDepth 20000 in
theorem d_180_553 : decode (js_b 180) 553 = .ok (.goto 4, 3) := by decide +kernel
set_option maxRecDepth 20000 in
theorem d_180_556 : decode (js_b 180) 556 = .ok (.iconst 0, 1) := by decide +kernel
set_option maxRecDepth 20000 in
theorem d_180_557 : decode (js_b 180) 557 = .ok (.ireturn, 1) := by decide +kernel
theorem ki_180_14 : js_OkG 180 14 (o_is 7 16) := js_St.okG (st_istore (Nat.le_of_ble_eq_true rfl) d_180_14) (fun _ _ _ _ _ => rfl)
theorem ki_180_13 : js_OkG 180 13 (o_ic 0 14) := js_St.okG (st_iconst rfl d_180_13) (fun _ _ _ _ _ => rfl)
theorem ki_180_11 : js_OkG 180 11 (o_as 6 13) := js_St.okG (st_astore (Nat.le_of_ble_eq_true rfl) d_180_11) (fun _ _ _ _ _ => rfl)
theorem ki_180_9 : js_OkG 180 9 (o_na 102 (.long 0) 11) := js_St.okG (st_na (by decide) rfl (fun _ h => by cases h) (by decide) (fun _ => rfl) kw_836 d_180_9) (fun _ _ _ _ _ => rfl)
theorem ki_180_7 : js_OkG 180 7 (o_ic 6 9) := js_St.okG (st_bipush rfl d_180_7) (fun _ _ _ _ _ => rfl)
theorem ki_180_5 : js_OkG 180 5 (o_is 5 7) := js_St.okG (st_istore (Nat.le_of_ble_eq_true rfl) d_180_5) (fun _ _ _ _ _ => rfl)
theorem ki_180_4 : js_OkG 180 4 (o_ic 0 5) := js_St.okG (st_iconst rfl d_180_4) (fun _ _ _ _ _ => rfl)
theorem ki_180_3 : js_OkG 180 3 (o_ls 3 4) := js_St.okG (st_lstoren rfl (Nat.le_of_ble_eq_true rfl) d_180_3) (fun _ _ _ _ _ => rfl)
theorem ki_180_2 : js_OkG 180 2 (o_lc 0 3) := js_St.okG (st_lconst rfl d_180_2) (fun _ _ _ _ _ => rfl)
theorem ki_180_1 : js_OkG 180 1 (o_ls 1 2) := js_St.okG (st_lstoren rfl (Nat.le_of_ble_eq_true rfl) d_180_1) (fun _ _ _ _ _ => rfl)
theorem ki_180_0 : js_OkG 180 0 (o_lc 0 1) := js_St.okG (st_lconst rfl d_180_0) (fun _ _ _ _ _ => rfl)
theorem ki_180_30 : js_OkG 180 30 (o_il 7 32) := js_St.okG (st_iload d_180_30) (fun _ _ _ _ _ => rfl)
theorem ki_180_28 : js_OkG 180 28 (o_is 8 30) := js_St.okG (st_istore (Nat.le_of_ble_eq_true rfl) d_180_28) (fun _ _ _ _ _ => rfl)
theorem ki_180_27 : js_OkG 180 27 (o_div 28) := js_St.okG (st_idiv d_180_27) (fun _ _ _ _ _ => rfl)
theorem ki_180_25 : js_OkG 180 25 (o_ic 8 27) := js_St.okG (st_bipush rfl d_180_25) (fun _ _ _ _ _ => rfl)
theorem ki_180_23 : js_OkG 180 23 (o_il 7 25) := js_St.okG (st_iload d_180_23) (fun _ _ _ _ _ => rfl)
theorem ki_180_20 : js_OkG 180 20 (o_cge 285 23) := js_St.okG (st_icge (by decide) d_180_20) (fun _ _ _ _ _ => rfl)
theorem ki_180_18 : js_OkG 180 18 (o_ic 64 20) := js_St.okG (st_bipush rfl d_180_18) (fun _ _ _ _ _ => rfl)
theorem ki_180_16 : js_OkG 180 16 (o_il 7 18) := js_St.okG (st_iload d_180_16) (fun _ _ _ _ _ => rfl)
theorem ki_180_47 : js_OkG 180 47 (o_al 0 48) := js_St.okG (st_aloadn rfl d_180_47) (fun _ _ _ _ _ => rfl)
theorem ki_180_45 : js_OkG 180 45 (o_is 10 47) := js_St.okG (st_istore (Nat.le_of_ble_eq_true rfl) d_180_45) (fun _ _ _ _ _ => rfl)
theorem ki_180_42 : js_OkG 180 42 (o_cI 147 3 0 45) := og_sIW rfl rfl kB_180_147 rfl kw_738 kw_739 d_180_42
theorem ki_180_40 : js_OkG 180 40 (o_il 9 42) := js_St.okG (st_iload d_180_40) (fun _ _ _ _ _ => rfl)
theorem ki_180_38 : js_OkG 180 38 (o_il 8 40) := js_St.okG (st_iload d_180_38) (fun _ _ _ _ _ => rfl)
theorem ki_180_37 : js_OkG 180 37 (o_al 0 38) := js_St.okG (st_aloadn rfl d_180_37) (fun _ _ _ _ _ => rfl)
theorem ki_180_35 : js_OkG 180 35 (o_is 9 37) := js_St.okG (st_istore (Nat.le_of_ble_eq_true rfl) d_180_35) (fun _ _ _ _ _ => rfl)
theorem ki_180_34 : js_OkG 180 34 (o_rem 35) := js_St.okG (st_irem d_180_34) (fun _ _ _ _ _ => rfl)
theorem ki_180_32 : js_OkG 180 32 (o_ic 8 34) := js_St.okG (st_bipush rfl d_180_32) (fun _ _ _ _ _ => rfl)
theorem ki_180_63 : js_OkG 180 63 (o_lc 1 64) := js_St.okG (st_lconst rfl d_180_63) (fun _ _ _ _ _ => rfl)
theorem ki_180_60 : js_OkG 180 60 (o_lt 70 63) := js_St.okG (st_iflt (by decide) d_180_60) (fun _ _ _ _ _ => rfl)
theorem ki_180_58 : js_OkG 180 58 (o_il 10 60) := js_St.okG (st_iload d_180_58) (fun _ _ _ _ _ => rfl)
theorem ki_180_57 : js_OkG 180 57 (o_ll 1 58) := js_St.okG (st_lloadn rfl d_180_57) (fun _ _ _ _ _ => rfl)
theorem ki_180_55 : js_OkG 180 55 (o_is 11 57) := js_St.okG (st_istore (Nat.le_of_ble_eq_true rfl) d_180_55) (fun _ _ _ _ _ => rfl)
theorem ki_180_52 : js_OkG 180 52 (o_cI 170 3 0 55) := og_sIP rfl rfl kB_180_170 rfl kw_772 kw_773 d_180_52
theorem ki_180_50 : js_OkG 180 50 (o_il 9 52) := js_St.okG (st_iload d_180_50) (fun _ _ _ _ _ => rfl)
theorem ki_180_48 : js_OkG 180 48 (o_il 8 50) := js_St.okG (st_iload d_180_48) (fun _ _ _ _ _ => rfl)
theorem ki_180_79 : js_OkG 180 79 (o_lc 1 80) := js_St.okG (st_lconst rfl d_180_79) (fun _ _ _ _ _ => rfl)
theorem ki_180_76 : js_OkG 180 76 (o_eq 86 79) := js_St.okG (st_ifeq (by decide) d_180_76) (fun _ _ _ _ _ => rfl)
theorem ki_180_74 : js_OkG 180 74 (o_il 11 76) := js_St.okG (st_iload d_180_74) (fun _ _ _ _ _ => rfl)
theorem ki_180_73 : js_OkG 180 73 (o_ll 3 74) := js_St.okG (st_lloadn rfl d_180_73) (fun _ _ _ _ _ => rfl)
theorem ki_180_72 : js_OkG 180 72 (o_ls 1 73) := js_St.okG (st_lstoren rfl (Nat.le_of_ble_eq_true rfl) d_180_72) (fun _ _ _ _ _ => rfl)
theorem ki_180_71 : js_OkG 180 71 (o_B2 (fun x y => x ||| y) 72) := js_St.okG (st_lor d_180_71) (fun _ _ _ _ _ => rfl)
theorem ki_180_70 : js_OkG 180 70 (o_lc 0 71) := js_St.okG (st_lconst rfl d_180_70) (fun _ _ _ _ _ => rfl)
theorem ki_180_67 : js_OkG 180 67 (o_go 71) := js_St.okG (st_goto (by decide) d_180_67) (fun _ _ _ _ _ => rfl)
theorem ki_180_66 : js_OkG 180 66 (o_Sh (fun x y => x <<< (y.toInt64 &&& 63)) 67) := js_St.okG (st_lshl d_180_66) (fun _ _ _ _ _ => rfl)
theorem ki_180_64 : js_OkG 180 64 (o_il 7 66) := js_St.okG (st_iload d_180_64) (fun _ _ _ _ _ => rfl)
theorem ki_180_93 : js_OkG 180 93 (o_eq 100 96) := js_St.okG (st_ifeq (by decide) d_180_93) (fun _ _ _ _ _ => rfl)
theorem ki_180_91 : js_OkG 180 91 (o_il 11 93) := js_St.okG (st_iload d_180_91) (fun _ _ _ _ _ => rfl)
theorem ki_180_89 : js_OkG 180 89 (o_il 5 91) := js_St.okG (st_iload d_180_89) (fun _ _ _ _ _ => rfl)
theorem ki_180_88 : js_OkG 180 88 (o_ls 3 89) := js_St.okG (st_lstoren rfl (Nat.le_of_ble_eq_true rfl) d_180_88) (fun _ _ _ _ _ => rfl)
theorem ki_180_87 : js_OkG 180 87 (o_B2 (fun x y => x ||| y) 88) := js_St.okG (st_lor d_180_87) (fun _ _ _ _ _ => rfl)
theorem ki_180_86 : js_OkG 180 86 (o_lc 0 87) := js_St.okG (st_lconst rfl d_180_86) (fun _ _ _ _ _ => rfl)
theorem ki_180_83 : js_OkG 180 83 (o_go 87) := js_St.okG (st_goto (by decide) d_180_83) (fun _ _ _ _ _ => rfl)
theorem ki_180_82 : js_OkG 180 82 (o_Sh (fun x y => x <<< (y.toInt64 &&& 63)) 83) := js_St.okG (st_lshl d_180_82) (fun _ _ _ _ _ => rfl)
theorem ki_180_80 : js_OkG 180 80 (o_il 7 82) := js_St.okG (st_iload d_180_80) (fun _ _ _ _ _ => rfl)
theorem ki_180_111 : js_OkG 180 111 (o_al 0 112) := js_St.okG (st_aloadn rfl d_180_111) (fun _ _ _ _ _ => rfl)
theorem ki_180_109 : js_OkG 180 109 (o_al 6 111) := js_St.okG (st_aload d_180_109) (fun _ _ _ _ _ => rfl)
theorem ki_180_106 : js_OkG 180 106 (o_lt 175 109) := js_St.okG (st_iflt (by decide) d_180_106) (fun _ _ _ _ _ => rfl)
theorem ki_180_104 : js_OkG 180 104 (o_il 10 106) := js_St.okG (st_iload d_180_104) (fun _ _ _ _ _ => rfl)
theorem ki_180_102 : js_OkG 180 102 (o_is 5 104) := js_St.okG (st_istore (Nat.le_of_ble_eq_true rfl) d_180_102) (fun _ _ _ _ _ => rfl)
theorem ki_180_101 : js_OkG 180 101 (o_b2 (fun x y => x + y) 102) := js_St.okG (st_iadd d_180_101) (fun _ _ _ _ _ => rfl)
theorem ki_180_100 : js_OkG 180 100 (o_ic 0 101) := js_St.okG (st_iconst rfl d_180_100) (fun _ _ _ _ _ => rfl)
theorem ki_180_97 : js_OkG 180 97 (o_go 101) := js_St.okG (st_goto (by decide) d_180_97) (fun _ _ _ _ _ => rfl)
theorem ki_180_96 : js_OkG 180 96 (o_ic 1 97) := js_St.okG (st_iconst rfl d_180_96) (fun _ _ _ _ _ => rfl)
theorem ki_180_127 : js_OkG 180 127 (o_sL 102 128) := js_St.okG (st_sL d_180_127) (fun _ _ _ _ _ => rfl)
theorem ki_180_126 : js_OkG 180 126 (o_B2 (fun x y => x ||| y) 127) := js_St.okG (st_lor d_180_126) (fun _ _ _ _ _ => rfl)
theorem ki_180_125 : js_OkG 180 125 (o_Sh (fun x y => x <<< (y.toInt64 &&& 63)) 126) := js_St.okG (st_lshl d_180_125) (fun _ _ _ _ _ => rfl)
theorem ki_180_123 : js_OkG 180 123 (o_il 7 125) := js_St.okG (st_iload d_180_123) (fun _ _ _ _ _ => rfl)
theorem ki_180_122 : js_OkG 180 122 (o_lc 1 123) := js_St.okG (st_lconst rfl d_180_122) (fun _ _ _ _ _ => rfl)
theorem ki_180_121 : js_OkG 180 121 (o_lL 102 122) := js_St.okG (st_lL d_180_121) (fun _ _ _ _ _ => rfl)
theorem ki_180_120 : js_OkG 180 120 (o_d11 121) := js_St.okG (st_dup2 d_180_120) (fun _ _ _ _ _ => rfl)
theorem ki_180_119 : js_OkG 180 119 (o_b2 (fun x y => x - y) 120) := js_St.okG (st_isub d_180_119) (fun _ _ _ _ _ => rfl)
theorem ki_180_117 : js_OkG 180 117 (o_ic 97 119) := js_St.okG (st_bipush rfl d_180_117) (fun _ _ _ _ _ => rfl)
theorem ki_180_114 : js_OkG 180 114 (o_cI 136 2 0 117) := og_sIW rfl rfl kB_180_136 rfl kw_629 kw_630 d_180_114
theorem ki_180_112 : js_OkG 180 112 (o_il 10 114) := js_St.okG (st_iload d_180_112) (fun _ _ _ _ _ => rfl)
theorem ki_180_142 : js_OkG 180 142 (o_cI 148 3 0 145) := og_sIW rfl rfl kB_180_148 rfl kw_691 kw_692 d_180_142
theorem ki_180_140 : js_OkG 180 140 (o_il 12 142) := js_St.okG (st_iload d_180_140) (fun _ _ _ _ _ => rfl)
theorem ki_180_138 : js_OkG 180 138 (o_il 10 140) := js_St.okG (st_iload d_180_138) (fun _ _ _ _ _ => rfl)
theorem ki_180_137 : js_OkG 180 137 (o_al 0 138) := js_St.okG (st_aloadn rfl d_180_137) (fun _ _ _ _ _ => rfl)
theorem ki_180_134 : js_OkG 180 134 (o_cge 175 137) := js_St.okG (st_icge (by decide) d_180_134) (fun _ _ _ _ _ => rfl)
theorem ki_180_133 : js_OkG 180 133 (o_ic 4 134) := js_St.okG (st_iconst rfl d_180_133) (fun _ _ _ _ _ => rfl)
theorem ki_180_131 : js_OkG 180 131 (o_il 12 133) := js_St.okG (st_iload d_180_131) (fun _ _ _ _ _ => rfl)
theorem ki_180_129 : js_OkG 180 129 (o_is 12 131) := js_St.okG (st_istore (Nat.le_of_ble_eq_true rfl) d_180_129) (fun _ _ _ _ _ => rfl)
theorem ki_180_128 : js_OkG 180 128 (o_ic 0 129) := js_St.okG (st_iconst rfl d_180_128) (fun _ _ _ _ _ => rfl)
theorem ki_180_159 : js_OkG 180 159 (o_ic 1 160) := js_St.okG (st_iconst rfl d_180_159) (fun _ _ _ _ _ => rfl)
theorem ki_180_156 : js_OkG 180 156 (o_cne 163 159) := js_St.okG (st_icne (by decide) d_180_156) (fun _ _ _ _ _ => rfl)
theorem ki_180_155 : js_OkG 180 155 (o_ic 1 156) := js_St.okG (st_iconst rfl d_180_155) (fun _ _ _ _ _ => rfl)
theorem ki_180_152 : js_OkG 180 152 (o_cI 176 4 0 155) := og_sIP rfl rfl kB_180_176 rfl kw_785 kw_786 d_180_152
theorem ki_180_150 : js_OkG 180 150 (o_il 12 152) := js_St.okG (st_iload d_180_150) (fun _ _ _ _ _ => rfl)
theorem ki_180_148 : js_OkG 180 148 (o_il 9 150) := js_St.okG (st_iload d_180_148) (fun _ _ _ _ _ => rfl)
theorem ki_180_146 : js_OkG 180 146 (o_il 8 148) := js_St.okG (st_iload d_180_146) (fun _ _ _ _ _ => rfl)
theorem ki_180_145 : js_OkG 180 145 (o_al 0 146) := js_St.okG (st_aloadn rfl d_180_145) (fun _ _ _ _ _ => rfl)
theorem ki_180_175 : js_OkG 180 175 (o_al 0 176) := js_St.okG (st_aloadn rfl d_180_175) (fun _ _ _ _ _ => rfl)
theorem ki_180_172 : js_OkG 180 172 (o_go 131) := js_St.okG (st_goto (by decide) d_180_172) (fun _ _ _ _ _ => rfl)
theorem ki_180_169 : js_OkG 180 169 (o_inc 12 1 172) := js_St.okG (st_iinc rfl (Nat.le_of_ble_eq_true rfl) d_180_169) (fun _ _ _ _ _ => rfl)
theorem ki_180_168 : js_OkG 180 168 (o_rZ) := og_rZ rfl d_180_168
theorem ki_180_167 : js_OkG 180 167 (o_ic 0 168) := js_St.okG (st_iconst rfl d_180_167) (fun _ _ _ _ _ => rfl)
theorem ki_180_164 : js_OkG 180 164 (o_ceq 169 167) := js_St.okG (st_iceq (by decide) d_180_164) (fun _ _ _ _ _ => rfl)
theorem ki_180_163 : js_OkG 180 163 (o_ic 0 164) := js_St.okG (st_iconst rfl d_180_163) (fun _ _ _ _ _ => rfl)
theorem ki_180_160 : js_OkG 180 160 (o_go 164) := js_St.okG (st_goto (by decide) d_180_160) (fun _ _ _ _ _ => rfl)
theorem ki_180_190 : js_OkG 180 190 (o_cI 177 4 0 193) := og_sIP rfl rfl kB_180_177 rfl kw_788 kw_789 d_180_190
theorem ki_180_189 : js_OkG 180 189 (o_ic (-1) 190) := js_St.okG (st_iconst rfl d_180_189) (fun _ _ _ _ _ => rfl)
theorem ki_180_187 : js_OkG 180 187 (o_il 9 189) := js_St.okG (st_iload d_180_187) (fun _ _ _ _ _ => rfl)
theorem ki_180_185 : js_OkG 180 185 (o_il 8 187) := js_St.okG (st_iload d_180_185) (fun _ _ _ _ _ => rfl)
theorem ki_180_184 : js_OkG 180 184 (o_al 0 185) := js_St.okG (st_aloadn rfl d_180_184) (fun _ _ _ _ _ => rfl)
theorem ki_180_181 : js_OkG 180 181 (o_cI 177 4 0 184) := og_sIP rfl rfl kB_180_177 rfl kw_788 kw_789 d_180_181
theorem ki_180_180 : js_OkG 180 180 (o_ic 1 181) := js_St.okG (st_iconst rfl d_180_180) (fun _ _ _ _ _ => rfl)
theorem ki_180_178 : js_OkG 180 178 (o_il 9 180) := js_St.okG (st_iload d_180_178) (fun _ _ _ _ _ => rfl)
theorem ki_180_176 : js_OkG 180 176 (o_il 8 178) := js_St.okG (st_iload d_180_176) (fun _ _ _ _ _ => rfl)
theorem ki_180_206 : js_OkG 180 206 (o_ge 213 209) := js_St.okG (st_ifge (by decide) d_180_206) (fun _ _ _ _ _ => rfl)
theorem ki_180_204 : js_OkG 180 204 (o_il 10 206) := js_St.okG (st_iload d_180_204) (fun _ _ _ _ _ => rfl)
theorem ki_180_201 : js_OkG 180 201 (o_cI 146 3 0 204) := og_sIW rfl rfl kB_180_146 rfl kw_778 kw_779 d_180_201
theorem ki_180_199 : js_OkG 180 199 (o_il 9 201) := js_St.okG (st_iload d_180_199) (fun _ _ _ _ _ => rfl)
theorem ki_180_197 : js_OkG 180 197 (o_il 8 199) := js_St.okG (st_iload d_180_197) (fun _ _ _ _ _ => rfl)
theorem ki_180_196 : js_OkG 180 196 (o_al 0 197) := js_St.okG (st_aloadn rfl d_180_196) (fun _ _ _ _ _ => rfl)
theorem ki_180_194 : js_OkG 180 194 (o_is 12 196) := js_St.okG (st_istore (Nat.le_of_ble_eq_true rfl) d_180_194) (fun _ _ _ _ _ => rfl)
theorem ki_180_193 : js_OkG 180 193 (o_b2 (fun x y => x + y) 194) := js_St.okG (st_iadd d_180_193) (fun _ _ _ _ _ => rfl)
theorem ki_180_223 : js_OkG 180 223 (o_il 10 225) := js_St.okG (st_iload d_180_223) (fun _ _ _ _ _ => rfl)
theorem ki_180_222 : js_OkG 180 222 (o_al 0 223) := js_St.okG (st_aloadn rfl d_180_222) (fun _ _ _ _ _ => rfl)
theorem ki_180_219 : js_OkG 180 219 (o_lt 253 222) := js_St.okG (st_iflt (by decide) d_180_219) (fun _ _ _ _ _ => rfl)
theorem ki_180_217 : js_OkG 180 217 (o_il 10 219) := js_St.okG (st_iload d_180_217) (fun _ _ _ _ _ => rfl)
theorem ki_180_214 : js_OkG 180 214 (o_cne 277 217) := js_St.okG (st_icne (by decide) d_180_214) (fun _ _ _ _ _ => rfl)
theorem ki_180_213 : js_OkG 180 213 (o_ic 0 214) := js_St.okG (st_iconst rfl d_180_213) (fun _ _ _ _ _ => rfl)
theorem ki_180_210 : js_OkG 180 210 (o_go 214) := js_St.okG (st_goto (by decide) d_180_210) (fun _ _ _ _ _ => rfl)
theorem ki_180_209 : js_OkG 180 209 (o_ic 1 210) := js_St.okG (st_iconst rfl d_180_209) (fun _ _ _ _ _ => rfl)
theorem ki_180_237 : js_OkG 180 237 (o_cne 277 240) := js_St.okG (st_icne (by decide) d_180_237) (fun _ _ _ _ _ => rfl)
theorem ki_180_234 : js_OkG 180 234 (o_cI 177 4 0 237) := og_sIP rfl rfl kB_180_177 rfl kw_788 kw_789 d_180_234
theorem ki_180_233 : js_OkG 180 233 (o_ic (-1) 234) := js_St.okG (st_iconst rfl d_180_233) (fun _ _ _ _ _ => rfl)
theorem ki_180_231 : js_OkG 180 231 (o_il 9 233) := js_St.okG (st_iload d_180_231) (fun _ _ _ _ _ => rfl)
theorem ki_180_229 : js_OkG 180 229 (o_il 8 231) := js_St.okG (st_iload d_180_229) (fun _ _ _ _ _ => rfl)
theorem ki_180_228 : js_OkG 180 228 (o_al 0 229) := js_St.okG (st_aloadn rfl d_180_228) (fun _ _ _ _ _ => rfl)
theorem ki_180_225 : js_OkG 180 225 (o_cI 149 2 0 228) := og_sIW rfl rfl kB_180_149 rfl kw_699 kw_700 d_180_225
theorem ki_180_255 : js_OkG 180 255 (o_ne 271 258) := js_St.okG (st_ifne (by decide) d_180_255) (fun _ _ _ _ _ => rfl)
theorem ki_180_253 : js_OkG 180 253 (o_il 11 255) := js_St.okG (st_iload d_180_253) (fun _ _ _ _ _ => rfl)
theorem ki_180_250 : js_OkG 180 250 (o_cne 277 253) := js_St.okG (st_icne (by decide) d_180_250) (fun _ _ _ _ _ => rfl)
theorem ki_180_248 : js_OkG 180 248 (o_ic (-15) 250) := js_St.okG (st_bipush rfl d_180_248) (fun _ _ _ _ _ => rfl)
theorem ki_180_245 : js_OkG 180 245 (o_cI 150 3 0 248) := og_sIW rfl rfl kB_180_150 rfl kw_791 kw_792 d_180_245
theorem ki_180_243 : js_OkG 180 243 (o_il 9 245) := js_St.okG (st_iload d_180_243) (fun _ _ _ _ _ => rfl)
theorem ki_180_241 : js_OkG 180 241 (o_il 8 243) := js_St.okG (st_iload d_180_241) (fun _ _ _ _ _ => rfl)
theorem ki_180_240 : js_OkG 180 240 (o_al 0 241) := js_St.okG (st_aloadn rfl d_180_240) (fun _ _ _ _ _ => rfl)
theorem ki_180_271 : js_OkG 180 271 (o_il 12 273) := js_St.okG (st_iload d_180_271) (fun _ _ _ _ _ => rfl)
theorem ki_180_268 : js_OkG 180 268 (o_cne 277 271) := js_St.okG (st_icne (by decide) d_180_268) (fun _ _ _ _ _ => rfl)
theorem ki_180_266 : js_OkG 180 266 (o_ic (-15) 268) := js_St.okG (st_bipush rfl d_180_266) (fun _ _ _ _ _ => rfl)
theorem ki_180_263 : js_OkG 180 263 (o_cI 150 3 0 266) := og_sIW rfl rfl kB_180_150 rfl kw_791 kw_792 d_180_263
theorem ki_180_261 : js_OkG 180 261 (o_il 9 263) := js_St.okG (st_iload d_180_261) (fun _ _ _ _ _ => rfl)
theorem ki_180_259 : js_OkG 180 259 (o_il 8 261) := js_St.okG (st_iload d_180_259) (fun _ _ _ _ _ => rfl)
theorem ki_180_258 : js_OkG 180 258 (o_al 0 259) := js_St.okG (st_aloadn rfl d_180_258) (fun _ _ _ _ _ => rfl)
theorem ki_180_286 : js_OkG 180 286 (o_is 7 288) := js_St.okG (st_istore (Nat.le_of_ble_eq_true rfl) d_180_286) (fun _ _ _ _ _ => rfl)
theorem ki_180_285 : js_OkG 180 285 (o_ic 0 286) := js_St.okG (st_iconst rfl d_180_285) (fun _ _ _ _ _ => rfl)
theorem ki_180_282 : js_OkG 180 282 (o_go 16) := js_St.okG (st_goto (by decide) d_180_282) (fun _ _ _ _ _ => rfl)
theorem ki_180_279 : js_OkG 180 279 (o_inc 7 1 282) := js_St.okG (st_iinc rfl (Nat.le_of_ble_eq_true rfl) d_180_279) (fun _ _ _ _ _ => rfl)
theorem ki_180_278 : js_OkG 180 278 (o_rZ) := og_rZ rfl d_180_278
theorem ki_180_277 : js_OkG 180 277 (o_ic 0 278) := js_St.okG (st_iconst rfl d_180_277) (fun _ _ _ _ _ => rfl)
theorem ki_180_274 : js_OkG 180 274 (o_cle 279 277) := js_St.okG (st_icle (by decide) d_180_274) (fun _ _ _ _ _ => rfl)
theorem ki_180_273 : js_OkG 180 273 (o_ic 4 274) := js_St.okG (st_iconst rfl d_180_273) (fun _ _ _ _ _ => rfl)
theorem ki_180_302 : js_OkG 180 302 (o_cL 163 2 0 305) := og_sLW rfl rfl kB_180_163 rfl kw_799 kw_800 d_180_302
theorem ki_180_301 : js_OkG 180 301 (o_u (fun x => (x.toUInt32 % 65536).toInt32) 302) := js_St.okG (st_i2c d_180_301) (fun _ _ _ _ _ => rfl)
theorem ki_180_300 : js_OkG 180 300 (o_b2 (fun x y => x + y) 301) := js_St.okG (st_iadd d_180_300) (fun _ _ _ _ _ => rfl)
theorem ki_180_298 : js_OkG 180 298 (o_il 7 300) := js_St.okG (st_iload d_180_298) (fun _ _ _ _ _ => rfl)
theorem ki_180_296 : js_OkG 180 296 (o_ic 97 298) := js_St.okG (st_bipush rfl d_180_296) (fun _ _ _ _ _ => rfl)
theorem ki_180_295 : js_OkG 180 295 (o_al 0 296) := js_St.okG (st_aloadn rfl d_180_295) (fun _ _ _ _ _ => rfl)
theorem ki_180_292 : js_OkG 180 292 (o_cge 322 295) := js_St.okG (st_icge (by decide) d_180_292) (fun _ _ _ _ _ => rfl)
theorem ki_180_290 : js_OkG 180 290 (o_ic 6 292) := js_St.okG (st_bipush rfl d_180_290) (fun _ _ _ _ _ => rfl)
theorem ki_180_288 : js_OkG 180 288 (o_il 7 290) := js_St.okG (st_iload d_180_288) (fun _ _ _ _ _ => rfl)
theorem ki_180_319 : js_OkG 180 319 (o_go 288) := js_St.okG (st_goto (by decide) d_180_319) (fun _ _ _ _ _ => rfl)
theorem ki_180_316 : js_OkG 180 316 (o_inc 7 1 319) := js_St.okG (st_iinc rfl (Nat.le_of_ble_eq_true rfl) d_180_316) (fun _ _ _ _ _ => rfl)
theorem ki_180_315 : js_OkG 180 315 (o_rZ) := og_rZ rfl d_180_315
theorem ki_180_314 : js_OkG 180 314 (o_ic 0 315) := js_St.okG (st_iconst rfl d_180_314) (fun _ _ _ _ _ => rfl)
theorem ki_180_311 : js_OkG 180 311 (o_eq 316 314) := js_St.okG (st_ifeq (by decide) d_180_311) (fun _ _ _ _ _ => rfl)
theorem ki_180_310 : js_OkG 180 310 (o_lcmp 311) := js_St.okG (st_lcmp d_180_310) (fun _ _ _ _ _ => rfl)
theorem ki_180_309 : js_OkG 180 309 (o_lL 102 310) := js_St.okG (st_lL d_180_309) (fun _ _ _ _ _ => rfl)
theorem ki_180_307 : js_OkG 180 307 (o_il 7 309) := js_St.okG (st_iload d_180_307) (fun _ _ _ _ _ => rfl)
theorem ki_180_305 : js_OkG 180 305 (o_al 6 307) := js_St.okG (st_aload d_180_305) (fun _ _ _ _ _ => rfl)
theorem ki_180_334 : js_OkG 180 334 (o_is 8 336) := js_St.okG (st_istore (Nat.le_of_ble_eq_true rfl) d_180_334) (fun _ _ _ _ _ => rfl)
theorem ki_180_331 : js_OkG 180 331 (o_cI 178 2 0 334) := og_sIP rfl rfl kB_180_178 rfl kw_809 kw_810 d_180_331
theorem ki_180_330 : js_OkG 180 330 (o_ic (-1) 331) := js_St.okG (st_iconst rfl d_180_330) (fun _ _ _ _ _ => rfl)
theorem ki_180_329 : js_OkG 180 329 (o_al 0 330) := js_St.okG (st_aloadn rfl d_180_329) (fun _ _ _ _ _ => rfl)
theorem ki_180_327 : js_OkG 180 327 (o_is 7 329) := js_St.okG (st_istore (Nat.le_of_ble_eq_true rfl) d_180_327) (fun _ _ _ _ _ => rfl)
theorem ki_180_324 : js_OkG 180 324 (o_cI 178 2 0 327) := og_sIP rfl rfl kB_180_178 rfl kw_809 kw_810 d_180_324
theorem ki_180_323 : js_OkG 180 323 (o_ic 1 324) := js_St.okG (st_iconst rfl d_180_323) (fun _ _ _ _ _ => rfl)
theorem ki_180_322 : js_OkG 180 322 (o_al 0 323) := js_St.okG (st_aloadn rfl d_180_322) (fun _ _ _ _ _ => rfl)
theorem ki_180_351 : js_OkG 180 351 (o_b2 (fun x y => x + y) 352) := js_St.okG (st_iadd d_180_351) (fun _ _ _ _ _ => rfl)
theorem ki_180_349 : js_OkG 180 349 (o_il 8 351) := js_St.okG (st_iload d_180_349) (fun _ _ _ _ _ => rfl)
theorem ki_180_347 : js_OkG 180 347 (o_il 7 349) := js_St.okG (st_iload d_180_347) (fun _ _ _ _ _ => rfl)
theorem ki_180_345 : js_OkG 180 345 (o_is 9 347) := js_St.okG (st_istore (Nat.le_of_ble_eq_true rfl) d_180_345) (fun _ _ _ _ _ => rfl)
theorem ki_180_344 : js_OkG 180 344 (o_b2 (fun x y => x - y) 345) := js_St.okG (st_isub d_180_344) (fun _ _ _ _ _ => rfl)
theorem ki_180_341 : js_OkG 180 341 (o_cI 63 1 8 344) := og_cI (site_V kk_180_63 (by decide) kw_750 kw_751 kw_752 (fun t ht => by cases ht; exact Or.inl ⟨by decide, _, rfl, rfl⟩) d_180_341) rfl rfl
theorem ki_180_340 : js_OkG 180 340 (o_al 0 341) := js_St.okG (st_aloadn rfl d_180_340) (fun _ _ _ _ _ => rfl)
theorem ki_180_337 : js_OkG 180 337 (o_cI 62 1 8 340) := og_cI (site_V kk_180_62 (by decide) kw_746 kw_747 kw_748 (fun t ht => by cases ht; exact Or.inl ⟨by decide, _, rfl, rfl⟩) d_180_337) rfl rfl
theorem ki_180_336 : js_OkG 180 336 (o_al 0 337) := js_St.okG (st_aloadn rfl d_180_336) (fun _ _ _ _ _ => rfl)
theorem ki_180_367 : js_OkG 180 367 (o_i2f 368) := js_St.okG (st_i2f d_180_367) (fun _ _ _ _ _ => rfl)
theorem ki_180_366 : js_OkG 180 366 (o_b2 (fun x y => x + y) 367) := js_St.okG (st_iadd d_180_366) (fun _ _ _ _ _ => rfl)
theorem ki_180_364 : js_OkG 180 364 (o_il 8 366) := js_St.okG (st_iload d_180_364) (fun _ _ _ _ _ => rfl)
theorem ki_180_362 : js_OkG 180 362 (o_il 7 364) := js_St.okG (st_iload d_180_362) (fun _ _ _ _ _ => rfl)
theorem ki_180_361 : js_OkG 180 361 (o_i2f 362) := js_St.okG (st_i2f d_180_361) (fun _ _ _ _ _ => rfl)
theorem ki_180_359 : js_OkG 180 359 (o_il 7 361) := js_St.okG (st_iload d_180_359) (fun _ _ _ _ _ => rfl)
theorem ki_180_356 : js_OkG 180 356 (o_cF 99 1 8 359) := og_cF (site_V kk_180_99 (by decide) kw_812 kw_813 kw_814 (fun t ht => by cases ht; exact Or.inl ⟨by decide, _, rfl, rfl⟩) d_180_356) rfl rfl
theorem ki_180_355 : js_OkG 180 355 (o_al 0 356) := js_St.okG (st_aloadn rfl d_180_355) (fun _ _ _ _ _ => rfl)
theorem ki_180_352 : js_OkG 180 352 (o_eq 393 355) := js_St.okG (st_ifeq (by decide) d_180_352) (fun _ _ _ _ _ => rfl)
theorem ki_180_382 : js_OkG 180 382 (o_il 8 384) := js_St.okG (st_iload d_180_382) (fun _ _ _ _ _ => rfl)
theorem ki_180_380 : js_OkG 180 380 (o_il 7 382) := js_St.okG (st_iload d_180_380) (fun _ _ _ _ _ => rfl)
theorem ki_180_379 : js_OkG 180 379 (o_i2f 380) := js_St.okG (st_i2f d_180_379) (fun _ _ _ _ _ => rfl)
theorem ki_180_377 : js_OkG 180 377 (o_il 7 379) := js_St.okG (st_iload d_180_377) (fun _ _ _ _ _ => rfl)
theorem ki_180_374 : js_OkG 180 374 (o_cI 100 1 8 377) := og_cI (site_V kk_180_100 (by decide) kw_837 kw_838 kw_839 (fun t ht => by cases ht; exact Or.inl ⟨by decide, _, rfl, rfl⟩) d_180_374) rfl rfl
theorem ki_180_373 : js_OkG 180 373 (o_al 0 374) := js_St.okG (st_aloadn rfl d_180_373) (fun _ _ _ _ _ => rfl)
theorem ki_180_370 : js_OkG 180 370 (o_ne 397 373) := js_St.okG (st_ifne (by decide) d_180_370) (fun _ _ _ _ _ => rfl)
theorem ki_180_369 : js_OkG 180 369 (o_fcmp .l 370) := js_St.okG (st_fcmp d_180_369) (fun _ _ _ _ _ => rfl)
theorem ki_180_368 : js_OkG 180 368 (o_F2 FP.fdiv 369) := js_St.okG (st_fdiv d_180_368) (fun _ _ _ _ _ => rfl)
theorem ki_180_398 : js_OkG 180 398 (o_is 10 400) := js_St.okG (st_istore (Nat.le_of_ble_eq_true rfl) d_180_398) (fun _ _ _ _ _ => rfl)
theorem ki_180_397 : js_OkG 180 397 (o_ic 0 398) := js_St.okG (st_iconst rfl d_180_397) (fun _ _ _ _ _ => rfl)
theorem ki_180_394 : js_OkG 180 394 (o_go 398) := js_St.okG (st_goto (by decide) d_180_394) (fun _ _ _ _ _ => rfl)
theorem ki_180_393 : js_OkG 180 393 (o_ic 1 394) := js_St.okG (st_iconst rfl d_180_393) (fun _ _ _ _ _ => rfl)
theorem ki_180_390 : js_OkG 180 390 (o_cne 397 393) := js_St.okG (st_icne (by decide) d_180_390) (fun _ _ _ _ _ => rfl)
theorem ki_180_387 : js_OkG 180 387 (o_cI 243 1 0 390) := og_cI (site_S kk_180_243 kw_846 kw_847 d_180_387) rfl rfl
theorem ki_180_386 : js_OkG 180 386 (o_F2 FP.fdiv 387) := js_St.okG (st_fdiv d_180_386) (fun _ _ _ _ _ => rfl)
theorem ki_180_385 : js_OkG 180 385 (o_i2f 386) := js_St.okG (st_i2f d_180_385) (fun _ _ _ _ _ => rfl)
theorem ki_180_384 : js_OkG 180 384 (o_b2 (fun x y => x + y) 385) := js_St.okG (st_iadd d_180_384) (fun _ _ _ _ _ => rfl)
theorem ki_180_414 : js_OkG 180 414 (o_il 9 416) := js_St.okG (st_iload d_180_414) (fun _ _ _ _ _ => rfl)
theorem ki_180_413 : js_OkG 180 413 (o_i2d 414) := js_St.okG (st_i2d d_180_413) (fun _ _ _ _ _ => rfl)
theorem ki_180_412 : js_OkG 180 412 (o_b2 (fun x y => x * y) 413) := js_St.okG (st_imul d_180_412) (fun _ _ _ _ _ => rfl)
theorem ki_180_410 : js_OkG 180 410 (o_il 7 412) := js_St.okG (st_iload d_180_410) (fun _ _ _ _ _ => rfl)
theorem ki_180_409 : js_OkG 180 409 (o_ic 2 410) := js_St.okG (st_iconst rfl d_180_409) (fun _ _ _ _ _ => rfl)
theorem ki_180_406 : js_OkG 180 406 (o_cD 101 1 8 409) := og_cD (site_V kk_180_101 (by decide) kw_856 kw_857 kw_858 (fun t ht => by cases ht; exact Or.inl ⟨by decide, _, rfl, rfl⟩) d_180_406) rfl rfl
theorem ki_180_405 : js_OkG 180 405 (o_al 0 406) := js_St.okG (st_aloadn rfl d_180_405) (fun _ _ _ _ _ => rfl)
theorem ki_180_402 : js_OkG 180 402 (o_eq 422 405) := js_St.okG (st_ifeq (by decide) d_180_402) (fun _ _ _ _ _ => rfl)
theorem ki_180_400 : js_OkG 180 400 (o_il 9 402) := js_St.okG (st_iload d_180_400) (fun _ _ _ _ _ => rfl)
theorem ki_180_431 : js_OkG 180 431 (o_eq 556 434) := js_St.okG (st_ifeq (by decide) d_180_431) (fun _ _ _ _ _ => rfl)
theorem ki_180_429 : js_OkG 180 429 (o_il 10 431) := js_St.okG (st_iload d_180_429) (fun _ _ _ _ _ => rfl)
theorem ki_180_427 : js_OkG 180 427 (o_is 11 429) := js_St.okG (st_istore (Nat.le_of_ble_eq_true rfl) d_180_427) (fun _ _ _ _ _ => rfl)
theorem ki_180_426 : js_OkG 180 426 (o_ic 0 427) := js_St.okG (st_iconst rfl d_180_426) (fun _ _ _ _ _ => rfl)
theorem ki_180_423 : js_OkG 180 423 (o_go 427) := js_St.okG (st_goto (by decide) d_180_423) (fun _ _ _ _ _ => rfl)
theorem ki_180_422 : js_OkG 180 422 (o_ic 1 423) := js_St.okG (st_iconst rfl d_180_422) (fun _ _ _ _ _ => rfl)
theorem ki_180_419 : js_OkG 180 419 (o_ne 426 422) := js_St.okG (st_ifne (by decide) d_180_419) (fun _ _ _ _ _ => rfl)
theorem ki_180_418 : js_OkG 180 418 (o_dcmp .l 419) := js_St.okG (st_dcmp d_180_418) (fun _ _ _ _ _ => rfl)
theorem ki_180_417 : js_OkG 180 417 (o_D2 FP.ddiv 418) := js_St.okG (st_ddiv d_180_417) (fun _ _ _ _ _ => rfl)
theorem ki_180_416 : js_OkG 180 416 (o_i2d 417) := js_St.okG (st_i2d d_180_416) (fun _ _ _ _ _ => rfl)
theorem ki_180_445 : js_OkG 180 445 (o_ne 556 448) := js_St.okG (st_ifne (by decide) d_180_445) (fun _ _ _ _ _ => rfl)
theorem ki_180_444 : js_OkG 180 444 (o_lcmp 445) := js_St.okG (st_lcmp d_180_444) (fun _ _ _ _ _ => rfl)
theorem ki_180_443 : js_OkG 180 443 (o_ll 1 444) := js_St.okG (st_lloadn rfl d_180_443) (fun _ _ _ _ _ => rfl)
theorem ki_180_440 : js_OkG 180 440 (o_cL 80 1 8 443) := og_cL (site_V kk_180_80 (by decide) kw_861 kw_862 kw_863 (fun t ht => by cases ht; exact Or.inl ⟨by decide, _, rfl, rfl⟩) d_180_440) rfl rfl
theorem ki_180_439 : js_OkG 180 439 (o_al 0 440) := js_St.okG (st_aloadn rfl d_180_439) (fun _ _ _ _ _ => rfl)
theorem ki_180_436 : js_OkG 180 436 (o_eq 556 439) := js_St.okG (st_ifeq (by decide) d_180_436) (fun _ _ _ _ _ => rfl)
theorem ki_180_434 : js_OkG 180 434 (o_il 11 436) := js_St.okG (st_iload d_180_434) (fun _ _ _ _ _ => rfl)
theorem ki_180_463 : js_OkG 180 463 (o_ne 556 466) := js_St.okG (st_ifne (by decide) d_180_463) (fun _ _ _ _ _ => rfl)
theorem ki_180_462 : js_OkG 180 462 (o_lcmp 463) := js_St.okG (st_lcmp d_180_462) (fun _ _ _ _ _ => rfl)
theorem ki_180_461 : js_OkG 180 461 (o_ll 3 462) := js_St.okG (st_lloadn rfl d_180_461) (fun _ _ _ _ _ => rfl)
theorem ki_180_458 : js_OkG 180 458 (o_cL 83 1 8 461) := og_cL (site_V kk_180_83 (by decide) kw_869 kw_870 kw_871 (fun t ht => by cases ht; exact Or.inl ⟨by decide, _, rfl, rfl⟩) d_180_458) rfl rfl
theorem ki_180_457 : js_OkG 180 457 (o_al 0 458) := js_St.okG (st_aloadn rfl d_180_457) (fun _ _ _ _ _ => rfl)
theorem ki_180_454 : js_OkG 180 454 (o_ne 556 457) := js_St.okG (st_ifne (by decide) d_180_454) (fun _ _ _ _ _ => rfl)
theorem ki_180_453 : js_OkG 180 453 (o_lcmp 454) := js_St.okG (st_lcmp d_180_453) (fun _ _ _ _ _ => rfl)
theorem ki_180_452 : js_OkG 180 452 (o_ll 3 453) := js_St.okG (st_lloadn rfl d_180_452) (fun _ _ _ _ _ => rfl)
theorem ki_180_449 : js_OkG 180 449 (o_cL 82 1 8 452) := og_cL (site_V kk_180_82 (by decide) kw_865 kw_866 kw_867 (fun t ht => by cases ht; exact Or.inl ⟨by decide, _, rfl, rfl⟩) d_180_449) rfl rfl
theorem ki_180_448 : js_OkG 180 448 (o_al 0 449) := js_St.okG (st_aloadn rfl d_180_448) (fun _ _ _ _ _ => rfl)
theorem ki_180_479 : js_OkG 180 479 (o_il 7 481) := js_St.okG (st_iload d_180_479) (fun _ _ _ _ _ => rfl)
theorem ki_180_476 : js_OkG 180 476 (o_cI 85 1 8 479) := og_cI (site_V kk_180_85 (by decide) kw_882 kw_883 kw_884 (fun t ht => by cases ht; exact Or.inl ⟨by decide, _, rfl, rfl⟩) d_180_476) rfl rfl
theorem ki_180_475 : js_OkG 180 475 (o_al 0 476) := js_St.okG (st_aloadn rfl d_180_475) (fun _ _ _ _ _ => rfl)
theorem ki_180_472 : js_OkG 180 472 (o_cne 556 475) := js_St.okG (st_icne (by decide) d_180_472) (fun _ _ _ _ _ => rfl)
theorem ki_180_470 : js_OkG 180 470 (o_il 5 472) := js_St.okG (st_iload d_180_470) (fun _ _ _ _ _ => rfl)
theorem ki_180_467 : js_OkG 180 467 (o_cI 84 1 8 470) := og_cI (site_V kk_180_84 (by decide) kw_877 kw_878 kw_879 (fun t ht => by cases ht; exact Or.inl ⟨by decide, _, rfl, rfl⟩) d_180_467) rfl rfl
theorem ki_180_466 : js_OkG 180 466 (o_al 0 467) := js_St.okG (st_aloadn rfl d_180_466) (fun _ _ _ _ _ => rfl)
theorem ki_180_494 : js_OkG 180 494 (o_ic 103 496) := js_St.okG (st_bipush rfl d_180_494) (fun _ _ _ _ _ => rfl)
theorem ki_180_493 : js_OkG 180 493 (o_al 0 494) := js_St.okG (st_aloadn rfl d_180_493) (fun _ _ _ _ _ => rfl)
theorem ki_180_490 : js_OkG 180 490 (o_cne 556 493) := js_St.okG (st_icne (by decide) d_180_490) (fun _ _ _ _ _ => rfl)
theorem ki_180_488 : js_OkG 180 488 (o_il 8 490) := js_St.okG (st_iload d_180_488) (fun _ _ _ _ _ => rfl)
theorem ki_180_485 : js_OkG 180 485 (o_cI 86 1 8 488) := og_cI (site_V kk_180_86 (by decide) kw_886 kw_887 kw_888 (fun t ht => by cases ht; exact Or.inl ⟨by decide, _, rfl, rfl⟩) d_180_485) rfl rfl
theorem ki_180_484 : js_OkG 180 484 (o_al 0 485) := js_St.okG (st_aloadn rfl d_180_484) (fun _ _ _ _ _ => rfl)
theorem ki_180_481 : js_OkG 180 481 (o_cne 556 484) := js_St.okG (st_icne (by decide) d_180_481) (fun _ _ _ _ _ => rfl)
theorem ki_180_510 : js_OkG 180 510 (o_cI 147 3 0 513) := og_sIW rfl rfl kB_180_147 rfl kw_738 kw_739 d_180_510
theorem ki_180_509 : js_OkG 180 509 (o_ic 0 510) := js_St.okG (st_iconst rfl d_180_509) (fun _ _ _ _ _ => rfl)
theorem ki_180_507 : js_OkG 180 507 (o_ic 8 509) := js_St.okG (st_bipush rfl d_180_507) (fun _ _ _ _ _ => rfl)
theorem ki_180_506 : js_OkG 180 506 (o_al 0 507) := js_St.okG (st_aloadn rfl d_180_506) (fun _ _ _ _ _ => rfl)
theorem ki_180_503 : js_OkG 180 503 (o_ne 556 506) := js_St.okG (st_ifne (by decide) d_180_503) (fun _ _ _ _ _ => rfl)
theorem ki_180_502 : js_OkG 180 502 (o_lcmp 503) := js_St.okG (st_lcmp d_180_502) (fun _ _ _ _ _ => rfl)
theorem ki_180_499 : js_OkG 180 499 (o_lc (-2) 502) := js_St.okG (st_ldc2 kw_737 d_180_499) (fun _ _ _ _ _ => rfl)
theorem ki_180_496 : js_OkG 180 496 (o_cL 163 2 0 499) := og_sLW rfl rfl kB_180_163 rfl kw_799 kw_800 d_180_496
theorem ki_180_526 : js_OkG 180 526 (o_cne 556 529) := js_St.okG (st_icne (by decide) d_180_526) (fun _ _ _ _ _ => rfl)
theorem ki_180_524 : js_OkG 180 524 (o_ic (-11) 526) := js_St.okG (st_bipush rfl d_180_524) (fun _ _ _ _ _ => rfl)
theorem ki_180_521 : js_OkG 180 521 (o_cI 147 3 0 524) := og_sIW rfl rfl kB_180_147 rfl kw_738 kw_739 d_180_521
theorem ki_180_520 : js_OkG 180 520 (o_ic (-1) 521) := js_St.okG (st_iconst rfl d_180_520) (fun _ _ _ _ _ => rfl)
theorem ki_180_519 : js_OkG 180 519 (o_ic 0 520) := js_St.okG (st_iconst rfl d_180_519) (fun _ _ _ _ _ => rfl)
theorem ki_180_518 : js_OkG 180 518 (o_al 0 519) := js_St.okG (st_aloadn rfl d_180_518) (fun _ _ _ _ _ => rfl)
theorem ki_180_515 : js_OkG 180 515 (o_cne 556 518) := js_St.okG (st_icne (by decide) d_180_515) (fun _ _ _ _ _ => rfl)
theorem ki_180_513 : js_OkG 180 513 (o_ic (-11) 515) := js_St.okG (st_bipush rfl d_180_513) (fun _ _ _ _ _ => rfl)
theorem ki_180_542 : js_OkG 180 542 (o_ic 8 544) := js_St.okG (st_bipush rfl d_180_542) (fun _ _ _ _ _ => rfl)
theorem ki_180_541 : js_OkG 180 541 (o_ic 0 542) := js_St.okG (st_iconst rfl d_180_541) (fun _ _ _ _ _ => rfl)
theorem ki_180_540 : js_OkG 180 540 (o_al 0 541) := js_St.okG (st_aloadn rfl d_180_540) (fun _ _ _ _ _ => rfl)
theorem ki_180_537 : js_OkG 180 537 (o_cne 556 540) := js_St.okG (st_icne (by decide) d_180_537) (fun _ _ _ _ _ => rfl)
theorem ki_180_535 : js_OkG 180 535 (o_ic (-11) 537) := js_St.okG (st_bipush rfl d_180_535) (fun _ _ _ _ _ => rfl)
theorem ki_180_532 : js_OkG 180 532 (o_cI 146 3 0 535) := og_sIW rfl rfl kB_180_146 rfl kw_778 kw_779 d_180_532
theorem ki_180_531 : js_OkG 180 531 (o_ic 0 532) := js_St.okG (st_iconst rfl d_180_531) (fun _ _ _ _ _ => rfl)
theorem ki_180_530 : js_OkG 180 530 (o_ic (-1) 531) := js_St.okG (st_iconst rfl d_180_530) (fun _ _ _ _ _ => rfl)
theorem ki_180_529 : js_OkG 180 529 (o_al 0 530) := js_St.okG (st_aloadn rfl d_180_529) (fun _ _ _ _ _ => rfl)
theorem ki_180_557 : js_OkG 180 557 (o_rZ) := og_rZ rfl d_180_557
theorem ki_180_556 : js_OkG 180 556 (o_ic 0 557) := js_St.okG (st_iconst rfl d_180_556) (fun _ _ _ _ _ => rfl)
theorem ki_180_553 : js_OkG 180 553 (o_go 557) := js_St.okG (st_goto (by decide) d_180_553) (fun _ _ _ _ _ => rfl)
theorem ki_180_552 : js_OkG 180 552 (o_ic 1 553) := js_St.okG (st_iconst rfl d_180_552) (fun _ _ _ _ _ => rfl)
theorem ki_180_549 : js_OkG 180 549 (o_cne 556 552) := js_St.okG (st_icne (by decide) d_180_549) (fun _ _ _ _ _ => rfl)
theorem ki_180_547 : js_OkG 180 547 (o_ic (-11) 549) := js_St.okG (st_bipush rfl d_180_547) (fun _ _ _ _ _ => rfl)
theorem ki_180_544 : js_OkG 180 544 (o_cI 150 3 0 547) := og_sIW rfl rfl kB_180_150 rfl kw_791 kw_792 d_180_544
set_option maxRecDepth 20000 in
theorem mk_180 : js_mokG 180 := jk_tab (fun _ => js_St.okG st_bad (fun _ _ _ _ _ => rfl)) (show jk_all (js_OkG 180) 0 tb_180 from ⟨⟨ki_180_0, ⟨ki_180_1, ⟨ki_180_2, ⟨ki_180_3, ⟨ki_180_4, ⟨ki_180_5, ⟨kbadG, ⟨ki_180_7, ⟨kbadG, ⟨ki_180_9, ⟨kbadG, ⟨ki_180_11, ⟨kbadG, ⟨ki_180_13, ⟨ki_180_14, ⟨kbadG, trivial⟩⟩⟩⟩⟩⟩⟩⟩⟩⟩⟩⟩⟩⟩⟩⟩, ⟨⟨ki_180_16, ⟨kbadG, ⟨ki_180_18, ⟨kbadG, ⟨ki_180_20, ⟨kbadG, ⟨kbadG, ⟨ki_180_23, ⟨kbadG, ⟨ki_180_25, ⟨kbadG, ⟨ki_180_27, ⟨ki_180_28, ⟨kbadG, ⟨ki_180_30, ⟨kbadG, trivial⟩⟩⟩⟩⟩⟩⟩⟩⟩⟩⟩⟩⟩⟩⟩⟩, ⟨⟨ki_180_32, ⟨kbadG, ⟨ki_180_34, ⟨ki_180_35, ⟨kbadG, ⟨ki_180_37, ⟨ki_180_38, ⟨kbadG, ⟨ki_180_40, ⟨kbadG, ⟨ki_180_42, ⟨kbadG, ⟨kbadG, ⟨ki_180_45, ⟨kbadG, ⟨ki_180_47, trivial⟩⟩⟩⟩⟩⟩⟩⟩⟩⟩⟩⟩⟩⟩⟩⟩, ⟨⟨ki_180_48, ⟨kbadG, ⟨ki_180_50, ⟨kbadG, ⟨ki_180_52, ⟨kbadG, ⟨kbadG, ⟨ki_180_55, ⟨kbadG, ⟨ki_180_57, ⟨ki_180_58, ⟨kbadG, ⟨ki_180_60, ⟨kbadG, ⟨kbadG, ⟨ki_180_63, trivial⟩⟩⟩⟩⟩⟩⟩⟩⟩⟩⟩⟩⟩⟩⟩⟩, ⟨⟨ki_180_64, ⟨kbadG, ⟨ki_180_66, ⟨ki_180_67, ⟨kbadG, ⟨kbadG, ⟨ki_180_70, ⟨ki_180_71, ⟨ki_180_72, ⟨ki_180_73, ⟨ki_180_74, ⟨kbadG, ⟨ki_180_76, ⟨kbadG, ⟨kbadG, ⟨ki_180_79, trivial⟩⟩⟩⟩⟩⟩⟩⟩⟩⟩⟩⟩⟩⟩⟩⟩, ⟨⟨ki_180_80, ⟨kbadG, ⟨ki_180_82, ⟨ki_180_83, ⟨kbadG, ⟨kbadG, ⟨ki_180_86, ⟨ki_180_87, ⟨ki_180_88, ⟨ki_180_89, ⟨kbadG, ⟨ki_180_91, ⟨kbadG, ⟨ki_180_93, ⟨kbadG, ⟨kbadG, trivial⟩⟩⟩⟩⟩⟩⟩⟩⟩⟩⟩⟩⟩⟩⟩⟩, ⟨⟨ki_180_96, ⟨ki_180_97, ⟨kbadG, ⟨kbadG, ⟨ki_180_100, ⟨ki_180_101, ⟨ki_180_102, ⟨kbadG, ⟨ki_180_104, ⟨kbadG, ⟨ki_180_106, ⟨kbadG, ⟨kbadG, ⟨ki_180_109, ⟨kbadG, ⟨ki_180_111, trivial⟩⟩⟩⟩⟩⟩⟩⟩⟩⟩⟩⟩⟩⟩⟩⟩, ⟨⟨ki_180_112, ⟨kbadG, ⟨ki_180_114, ⟨kbadG, ⟨kbadG, ⟨ki_180_117, ⟨kbadG, ⟨ki_180_119, ⟨ki_180_120, ⟨ki_180_121, ⟨ki_180_122, ⟨ki_180_123, ⟨kbadG, ⟨ki_180_125, ⟨ki_180_126, ⟨ki_180_127, trivial⟩⟩⟩⟩⟩⟩⟩⟩⟩⟩⟩⟩⟩⟩⟩⟩, ⟨⟨ki_180_128, ⟨ki_180_129, ⟨kbadG, ⟨ki_180_131, ⟨kbadG, ⟨ki_180_133, ⟨ki_180_134, ⟨kbadG, ⟨kbadG, ⟨ki_180_137, ⟨ki_180_138, ⟨kbadG, ⟨ki_180_140, ⟨kbadG, ⟨ki_180_142, ⟨kbadG, trivial⟩⟩⟩⟩⟩⟩⟩⟩⟩⟩⟩⟩⟩⟩⟩⟩, ⟨⟨kbadG, ⟨ki_180_145, ⟨ki_180_146, ⟨kbadG, ⟨ki_180_148, ⟨kbadG, ⟨ki_180_150, ⟨kbadG, ⟨ki_180_152, ⟨kbadG, ⟨kbadG, ⟨ki_180_155, ⟨ki_180_156, ⟨kbadG, ⟨kbadG, ⟨ki_180_159, trivial⟩⟩⟩⟩⟩⟩⟩⟩⟩⟩⟩⟩⟩⟩⟩⟩, ⟨⟨ki_180_160, ⟨kbadG, ⟨kbadG, ⟨ki_180_163, ⟨ki_180_164, ⟨kbadG, ⟨kbadG, ⟨ki_180_167, ⟨ki_180_168, ⟨ki_180_169, ⟨kbadG, ⟨kbadG, ⟨ki_180_172, ⟨kbadG, ⟨kbadG, ⟨ki_180_175, trivial⟩⟩⟩⟩⟩⟩⟩⟩⟩⟩⟩⟩⟩⟩⟩⟩, ⟨⟨ki_180_176, ⟨kbadG, ⟨ki_180_178, ⟨kbadG, ⟨ki_180_180, ⟨ki_180_181, ⟨kbadG, ⟨kbadG, ⟨ki_180_184, ⟨ki_180_185, ⟨kbadG, ⟨ki_180_187, ⟨kbadG, ⟨ki_180_189, ⟨ki_180_190, ⟨kbadG, trivial⟩⟩⟩⟩⟩⟩⟩⟩⟩⟩⟩⟩⟩⟩⟩⟩, ⟨⟨kbadG, ⟨ki_180_193, ⟨ki_180_194, ⟨kbadG, ⟨ki_180_196, ⟨ki_180_197, ⟨kbadG, ⟨ki_180_199, ⟨kbadG, ⟨ki_180_201, ⟨kbadG, ⟨kbadG, ⟨ki_180_204, ⟨kbadG, ⟨ki_180_206, ⟨kbadG, trivial⟩⟩⟩⟩⟩⟩⟩⟩⟩⟩⟩⟩⟩⟩⟩⟩, ⟨⟨kbadG, ⟨ki_180_209, ⟨ki_180_210, ⟨kbadG, ⟨kbadG, ⟨ki_180_213, ⟨ki_180_214, ⟨kbadG, ⟨kbadG, ⟨ki_180_217, ⟨kbadG, ⟨ki_180_219, ⟨kbadG, ⟨kbadG, ⟨ki_180_222, ⟨ki_180_223, trivial⟩⟩⟩⟩⟩⟩⟩⟩⟩⟩⟩⟩⟩⟩⟩⟩, ⟨⟨kbadG, ⟨ki_180_225, ⟨kbadG, ⟨kbadG, ⟨ki_180_228, ⟨ki_180_229, ⟨kbadG, ⟨ki_180_231, ⟨kbadG, ⟨ki_180_233, ⟨ki_180_234, ⟨kbadG, ⟨kbadG, ⟨ki_180_237, ⟨kbadG, ⟨kbadG, trivial⟩⟩⟩⟩⟩⟩⟩⟩⟩⟩⟩⟩⟩⟩⟩⟩, ⟨⟨ki_180_240, ⟨ki_180_241, ⟨kbadG, ⟨ki_180_243, ⟨kbadG, ⟨ki_180_245, ⟨kbadG, ⟨kbadG, ⟨ki_180_248, ⟨kbadG, ⟨ki_180_250, ⟨kbadG, ⟨kbadG, ⟨ki_180_253, ⟨kbadG, ⟨ki_180_255, trivial⟩⟩⟩⟩⟩⟩⟩⟩⟩⟩⟩⟩⟩⟩⟩⟩, ⟨⟨kbadG, ⟨kbadG, ⟨ki_180_258, ⟨ki_180_259, ⟨kbadG, ⟨ki_180_261, ⟨kbadG, ⟨ki_180_263, ⟨kbadG, ⟨kbadG, ⟨ki_180_266, ⟨kbadG, ⟨ki_180_268, ⟨kbadG, ⟨kbadG, ⟨ki_180_271, trivial⟩⟩⟩⟩⟩⟩⟩⟩⟩⟩⟩⟩⟩⟩⟩⟩, ⟨⟨kbadG, ⟨ki_180_273, ⟨ki_180_274, ⟨kbadG, ⟨kbadG, ⟨ki_180_277, ⟨ki_180_278, ⟨ki_180_279, ⟨kbadG, ⟨kbadG, ⟨ki_180_282, ⟨kbadG, ⟨kbadG, ⟨ki_180_285, ⟨ki_180_286, ⟨kbadG, trivial⟩⟩⟩⟩⟩⟩⟩⟩⟩⟩⟩⟩⟩⟩⟩⟩, ⟨⟨ki_180_288, ⟨kbadG, ⟨ki_180_290, ⟨kbadG, ⟨ki_180_292, ⟨kbadG, ⟨kbadG, ⟨ki_180_295, ⟨ki_180_296, ⟨kbadG, ⟨ki_180_298, ⟨kbadG, ⟨ki_180_300, ⟨ki_180_301, ⟨ki_180_302, ⟨kbadG, trivial⟩⟩⟩⟩⟩⟩⟩⟩⟩⟩⟩⟩⟩⟩⟩⟩, ⟨⟨kbadG, ⟨ki_180_305, ⟨kbadG, ⟨ki_180_307, ⟨kbadG, ⟨ki_180_309, ⟨ki_180_310, ⟨ki_180_311, ⟨kbadG, ⟨kbadG, ⟨ki_180_314, ⟨ki_180_315, ⟨ki_180_316, ⟨kbadG, ⟨kbadG, ⟨ki_180_319, trivial⟩⟩⟩⟩⟩⟩⟩⟩⟩⟩⟩⟩⟩⟩⟩⟩, ⟨⟨kbadG, ⟨kbadG, ⟨ki_180_322, ⟨ki_180_323, ⟨ki_180_324, ⟨kbadG, ⟨kbadG, ⟨ki_180_327, ⟨kbadG, ⟨ki_180_329, ⟨ki_180_330, ⟨ki_180_331, ⟨kbadG, ⟨kbadG, ⟨ki_180_334, ⟨kbadG, trivial⟩⟩⟩⟩⟩⟩⟩⟩⟩⟩⟩⟩⟩⟩⟩⟩, ⟨⟨ki_180_336, ⟨ki_180_337, ⟨kbadG, ⟨kbadG, ⟨ki_180_340, ⟨ki_180_341, ⟨kbadG, ⟨kbadG, ⟨ki_180_344, ⟨ki_180_345, ⟨kbadG, ⟨ki_180_347, ⟨kbadG, ⟨ki_180_349, ⟨kbadG, ⟨ki_180_351, trivial⟩⟩⟩⟩⟩⟩⟩⟩⟩⟩⟩⟩⟩⟩⟩⟩, ⟨⟨ki_180_352, ⟨kbadG, ⟨kbadG, ⟨ki_180_355, ⟨ki_180_356, ⟨kbadG, ⟨kbadG, ⟨ki_180_359, ⟨kbadG, ⟨ki_180_361, ⟨ki_180_362, ⟨kbadG, ⟨ki_180_364, ⟨kbadG, ⟨ki_180_366, ⟨ki_180_367, trivial⟩⟩⟩⟩⟩⟩⟩⟩⟩⟩⟩⟩⟩⟩⟩⟩, ⟨⟨ki_180_368, ⟨ki_180_369, ⟨ki_180_370, ⟨kbadG, ⟨kbadG, ⟨ki_180_373, ⟨ki_180_374, ⟨kbadG, ⟨kbadG, ⟨ki_180_377, ⟨kbadG, ⟨ki_180_379, ⟨ki_180_380, ⟨kbadG, ⟨ki_180_382, ⟨kbadG, trivial⟩⟩⟩⟩⟩⟩⟩⟩⟩⟩⟩⟩⟩⟩⟩⟩, ⟨⟨ki_180_384, ⟨ki_180_385, ⟨ki_180_386, ⟨ki_180_387, ⟨kbadG, ⟨kbadG, ⟨ki_180_390, ⟨kbadG, ⟨kbadG, ⟨ki_180_393, ⟨ki_180_394, ⟨kbadG, ⟨kbadG, ⟨ki_180_397, ⟨ki_180_398, ⟨kbadG, trivial⟩⟩⟩⟩⟩⟩⟩⟩⟩⟩⟩⟩⟩⟩⟩⟩, ⟨⟨ki_180_400, ⟨kbadG, ⟨ki_180_402, ⟨kbadG, ⟨kbadG, ⟨ki_180_405, ⟨ki_180_406, ⟨kbadG, ⟨kbadG, ⟨ki_180_409, ⟨ki_180_410, ⟨kbadG, ⟨ki_180_412, ⟨ki_180_413, ⟨ki_180_414, ⟨kbadG, trivial⟩⟩⟩⟩⟩⟩⟩⟩⟩⟩⟩⟩⟩⟩⟩⟩, ⟨⟨ki_180_416, ⟨ki_180_417, ⟨ki_180_418, ⟨ki_180_419, ⟨kbadG, ⟨kbadG, ⟨ki_180_422, ⟨ki_180_423, ⟨kbadG, ⟨kbadG, ⟨ki_180_426, ⟨ki_180_427, ⟨kbadG, ⟨ki_180_429, ⟨kbadG, ⟨ki_180_431, trivial⟩⟩⟩⟩⟩⟩⟩⟩⟩⟩⟩⟩⟩⟩⟩⟩, ⟨⟨kbadG, ⟨kbadG, ⟨ki_180_434, ⟨kbadG, ⟨ki_180_436, ⟨kbadG, ⟨kbadG, ⟨ki_180_439, ⟨ki_180_440, ⟨kbadG, ⟨kbadG, ⟨ki_180_443, ⟨ki_180_444, ⟨ki_180_445, ⟨kbadG, ⟨kbadG, trivial⟩⟩⟩⟩⟩⟩⟩⟩⟩⟩⟩⟩⟩⟩⟩⟩, ⟨⟨ki_180_448, ⟨ki_180_449, ⟨kbadG, ⟨kbadG, ⟨ki_180_452, ⟨ki_180_453, ⟨ki_180_454, ⟨kbadG, ⟨kbadG, ⟨ki_180_457, ⟨ki_180_458, ⟨kbadG, ⟨kbadG, ⟨ki_180_461, ⟨ki_180_462, ⟨ki_180_463, trivial⟩⟩⟩⟩⟩⟩⟩⟩⟩⟩⟩⟩⟩⟩⟩⟩, ⟨⟨kbadG, ⟨kbadG, ⟨ki_180_466, ⟨ki_180_467, ⟨kbadG, ⟨kbadG, ⟨ki_180_470, ⟨kbadG, ⟨ki_180_472, ⟨kbadG, ⟨kbadG, ⟨ki_180_475, ⟨ki_180_476, ⟨kbadG, ⟨kbadG, ⟨ki_180_479, trivial⟩⟩⟩⟩⟩⟩⟩⟩⟩⟩⟩⟩⟩⟩⟩⟩, ⟨⟨kbadG, ⟨ki_180_481, ⟨kbadG, ⟨kbadG, ⟨ki_180_484, ⟨ki_180_485, ⟨kbadG, ⟨kbadG, ⟨ki_180_488, ⟨kbadG, ⟨ki_180_490, ⟨kbadG, ⟨kbadG, ⟨ki_180_493, ⟨ki_180_494, ⟨kbadG, trivial⟩⟩⟩⟩⟩⟩⟩⟩⟩⟩⟩⟩⟩⟩⟩⟩, ⟨⟨ki_180_496, ⟨kbadG, ⟨kbadG, ⟨ki_180_499, ⟨kbadG, ⟨kbadG, ⟨ki_180_502, ⟨ki_180_503, ⟨kbadG, ⟨kbadG, ⟨ki_180_506, ⟨ki_180_507, ⟨kbadG, ⟨ki_180_509, ⟨ki_180_510, ⟨kbadG, trivial⟩⟩⟩⟩⟩⟩⟩⟩⟩⟩⟩⟩⟩⟩⟩⟩, ⟨⟨kbadG, ⟨ki_180_513, ⟨kbadG, ⟨ki_180_515, ⟨kbadG, ⟨kbadG, ⟨ki_180_518, ⟨ki_180_519, ⟨ki_180_520, ⟨ki_180_521, ⟨kbadG, ⟨kbadG, ⟨ki_180_524, ⟨kbadG, ⟨ki_180_526, ⟨kbadG, trivial⟩⟩⟩⟩⟩⟩⟩⟩⟩⟩⟩⟩⟩⟩⟩⟩, ⟨⟨kbadG, ⟨ki_180_529, ⟨ki_180_530, ⟨ki_180_531, ⟨ki_180_532, ⟨kbadG, ⟨kbadG, ⟨ki_180_535, ⟨kbadG, ⟨ki_180_537, ⟨kbadG, ⟨kbadG, ⟨ki_180_540, ⟨ki_180_541, ⟨ki_180_542, ⟨kbadG, trivial⟩⟩⟩⟩⟩⟩⟩⟩⟩⟩⟩⟩⟩⟩⟩⟩, ⟨⟨ki_180_544, ⟨kbadG, ⟨kbadG, ⟨ki_180_547, ⟨kbadG, ⟨ki_180_549, ⟨kbadG, ⟨kbadG, ⟨ki_180_552, ⟨ki_180_553, ⟨kbadG, ⟨kbadG, ⟨ki_180_556, ⟨ki_180_557, trivial⟩⟩⟩⟩⟩⟩⟩⟩⟩⟩⟩⟩⟩⟩, trivial⟩⟩⟩⟩⟩⟩⟩⟩⟩⟩⟩⟩⟩⟩⟩⟩⟩⟩⟩⟩⟩⟩⟩⟩⟩⟩⟩⟩⟩⟩⟩⟩⟩⟩⟩)
set_option maxRecDepth 20000 in
theorem d_181_0 : decode (js_b 181) 0 = .ok (.iconst 0, 1) := by decide +kernel
set_option maxRecDepth 20000 in
theorem d_181_1 : decode (js_b 181) 1 = .ok (.istore_n 1, 1) := by decide +kernel
set_option maxRecDepth 20000 in
theorem d_181_2 : decode (js_b 181) 2 = .ok (.iload_n 1, 1) := by decide +kernel
set_option maxRecDepth 20000 in
theorem d_181_3 : decode (js_b 181) 3 = .ok (.bipush 64, 2) := by decide +kernel
set_option maxRecDepth 20000 in
theorem d_181_5 : decode (js_b 181) 5 = .ok (.if_icmp .ge 64, 3) := by decide +kernel
set_option maxRecDepth 20000 in
theorem d_181_8 : decode (js_b 181) 8 = .ok (.iload_n 1, 1) := by decide +kernel
set_option maxRecDepth 20000 in
theorem d_181_9 : decode (js_b 181) 9 = .ok (.bipush 8, 2) := by decide +kernel
set_option maxRecDepth 20000 in
theorem d_181_11 : decode (js_b 181) 11 = .ok (.idiv, 1) := by decide +kernel
set_option maxRecDepth 20000 in
theorem d_181_12 : decode (js_b 181) 12 = .ok (.istore_n 2, 1) := by decide +kernel
set_option maxRecDepth 20000 in
theorem d_181_13 : decode (js_b 181) 13 = .ok (.iload_n 1, 1) := by decide +kernel
set_option maxRecDepth 20000 in
theorem d_181_14 : decode (js_b 181) 14 = .ok (.bipush 8, 2) := by decide +kernel
set_option maxRecDepth 20000 in
theorem d_181_16 : decode (js_b 181) 16 = .ok (.irem, 1) := by decide +kernel
set_option maxRecDepth 20000 in
theorem d_181_17 : decode (js_b 181) 17 = .ok (.istore_n 3, 1) := by decide +kernel
set_option maxRecDepth 20000 in
theorem d_181_18 : decode (js_b 181) 18 = .ok (.aload_n 0, 1) := by decide +kernel
set_option maxRecDepth 20000 in
theorem d_181_19 : decode (js_b 181) 19 = .ok (.iload_n 2, 1) := by decide +kernel
set_option maxRecDepth 20000 in
theorem d_181_20 : decode (js_b 181) 20 = .ok (.iload_n 3, 1) := by decide +kernel
set_option maxRecDepth 20000 in
theorem d_181_21 : decode (js_b 181) 21 = .ok (.invokestatic 256, 3) := by decide +kernel
set_option maxRecDepth 20000 in
theorem d_181_24 : decode (js_b 181) 24 = .ok (.ifCond .ne 28, 3) := by decide +kernel
set_option maxRecDepth 20000 in
theorem d_181_27 : decode (js_b 181) 27 = .ok (.aload_n 0, 1) := by decide +kernel
set_option maxRecDepth 20000 in
theorem d_181_28 : decode (js_b 181) 28 = .ok (.iload_n 2, 1) := by decide +kernel
set_option maxRecDepth 20000 in
theorem d_181_29 : decode (js_b 181) 29 = .ok (.iload_n 3, 1) := by decide +kernel
set_option maxRecDepth 20000 in
theorem d_181_30 : decode (js_b 181) 30 = .ok (.invokestatic 308, 3) := by decide +kernel
set_option maxRecDepth 20000 in
theorem d_181_33 : decode (js_b 181) 33 = .ok (.bipush (-15), 2) := by decide +kernel
set_option maxRecDepth 20000 in
theorem d_181_35 : decode (js_b 181) 35 = .ok (.if_icmp .ne 15, 3) := by decide +kernel
set_option maxRecDepth 20000 in
theorem d_181_38 : decode (js_b 181) 38 = .ok (.aload_n 0, 1) := by decide +kernel
set_option maxRecDepth 20000 in
theorem d_181_39 : decode (js_b 181) 39 = .ok (.iload_n 2, 1) := by decide +kernel
set_option maxRecDepth 20000 in
theorem d_181_40 : decode (js_b 181) 40 = .ok (.iload_n 3, 1) := by decide +kernel
set_option maxRecDepth 20000 in
theorem d_181_41 : decode (js_b 181) 41 = .ok (.iconst 0, 1) := by decide +kernel
set_option maxRecDepth 20000 in
theorem d_181_42 : decode (js_b 181) 42 = .ok (.invokestatic 310, 3) := by decide +kernel
set_option maxRecDepth 20000 in
theorem d_181_45 : decode (js_b 181) 45 = .ok (.bipush (-15), 2) := by decide +kernel
set_option maxRecDepth 20000 in
theorem d_181_47 : decode (js_b 181) 47 = .ok (.if_icmp .eq 16, 3) := by decide +kernel
set_option maxRecDepth 20000 in
theorem d_181_50 : decode (js_b 181) 50 = .ok (.iconst 0, 1) := by decide +kernel
set_option maxRecDepth 20000 in
theorem d_181_51 : decode (js_b 181) 51 = .ok (.ireturn, 1) := by decide +kernel
set_option maxRecDepth 20000 in
theorem d_181_52 : decode (js_b 181) 52 = .ok (.aload_n 0, 1) := by decide +kernel
set_option maxRecDepth 20000 in
theorem d_181_53 : decode (js_b 181) 53 = .ok (.iload_n 2, 1) := by decide +kernel
set_option maxRecDepth 20000 in
theorem d_181_54 : decode (js_b 181) 54 = .ok (.iload_n 3, 1) := by decide +kernel
set_option maxRecDepth 20000 in
theorem d_181_55 : decode (js_b 181) 55 = .ok (.invokestatic 313, 3) := by decide +kernel
set_option maxRecDepth 20000 in
theorem d_181_58 : decode (js_b 181) 58 = .ok (.ifCond .ne 5, 3) := by decide +kernel
set_option maxRecDepth 20000 in
theorem d_181_61 : decode (js_b 181) 61 = .ok (.iconst 0, 1) := by decide +kernel
set_option maxRecDepth 20000 in
theorem d_181_62 : decode (js_b 181) 62 = .ok (.ireturn, 1) := by decide +kernel
set_option maxRecDepth 20000 in
theorem d_181_63 : decode (js_b 181) 63 = .ok (.iinc 1 1, 3) := by decide +kernel
set_option maxRecDepth 20000 in
theorem d_181_66 : decode (js_b 181) 66 = .ok (.goto (-64), 3) := by decide +kernel
set_option maxRecDepth 20000 in
theorem d_181_69 : decode (js_b 181) 69 = .ok (.aload_n 0, 1) := by decide +kernel
set_option maxRecDepth 20000 in
theorem d_181_70 : decode (js_b 181) 70 = .ok (.iconst (-1), 1) := by decide +kernel
set_option maxRecDepth 20000 in
theorem d_181_71 : decode (js_b 181) 71 = .ok (.bipush 9, 2) := by decide +kernel
set_option maxRecDepth 20000 in
theorem d_181_73 : decode (js_b 181) 73 = .ok (.iconst 0, 1) := by decide +kernel
set_option maxRecDepth 20000 in
theorem d_181_74 : decode (js_b 181) 74 = .ok (.bipush 9, 2) := by decide +kernel
set_option maxRecDepth 20000 in
theorem d_181_76 : decode (js_b 181) 76 = .ok (.invokestatic 316, 3) := by decide +kernel
set_option maxRecDepth 20000 in
theorem d_181_79 : decode (js_b 181) 79 = .ok (.bipush (-113), 2) := by decide +kernel
set_option maxRecDepth 20000 in
theorem d_181_81 : decode (js_b 181) 81 = .ok (.if_icmp .ne 44, 3) := by decide +kernel
set_option maxRecDepth 20000 in
theorem d_181_84 : decode (js_b 181) 84 = .ok (.aload_n 0, 1) := by decide +kernel
set_option maxRecDepth 20000 in
theorem d_181_85 : decode (js_b 181) 85 = .ok (.iconst (-1), 1) := by decide +kernel
set_option maxRecDepth 20000 in
theorem d_181_86 : decode (js_b 181) 86 = .ok (.bipush 9, 2) := by decide +kernel
set_option maxRecDepth 20000 in
theorem d_181_88 : decode (js_b 181) 88 = .ok (.iconst 0, 1) := by decide +kernel
set_option maxRecDepth 20000 in
theorem d_181_89 : decode (js_b 181) 89 = .ok (.invokestatic 318, 3) := by decide +kernel
set_option maxRecDepth 20000 in
theorem d_181_92 : decode (js_b 181) 92 = .ok (.bipush (-13), 2) := by decide +kernel
set_option maxRecDepth 20000 in
theorem d_181_94 : decode (js_b 181) 94 = .ok (.if_icmp .ne 31, 3) := by decide +kernel
set_option maxRecDepth 20000 in
theorem d_181_97 : decode (js_b 181) 97 = .ok (.aload_n 0, 1) := by decide +kernel
set_option maxRecDepth 20000 in
theorem d_181_98 : decode (js_b 181) 98 = .ok (.bipush 8, 2) := by decide +kernel
set_option maxRecDepth 20000 in
theorem d_181_100 : decode (js_b 181) 100 = .ok (.iconst 0, 1) := by decide +kernel
set_option maxRecDepth 20000 in
theorem d_181_101 : decode (js_b 181) 101 = .ok (.invokestatic 308, 3) := by decide +kernel
set_option maxRecDepth 20000 in
theorem d_181_104 : decode (js_b 181) 104 = .ok (.bipush (-11), 2) := by decide +kernel
set_option maxRecDepth 20000 in
theorem d_181_106 : decode (js_b 181) 106 = .ok (.if_icmp .ne 19, 3) := by decide +kernel
set_option maxRecDepth 20000 in
theorem d_181_109 : decode (js_b 181) 109 = .ok (.aload_n 0, 1) := by decide +kernel
set_option maxRecDepth 20000 in
theorem d_181_110 : decode (js_b 181) 110 = .ok (.iconst 0, 1) := by decide +kernel
set_option maxRecDepth 20000 in
theorem d_181_111 : decode (js_b 181) 111 = .ok (.iconst (-1), 1) := by decide +kernel
set_option maxRecDepth 20000 in
theorem d_181_112 : decode (js_b 181) 112 = .ok (.iconst 0, 1) := by decide +kernel
set_option maxRecDepth 20000 in
theorem d_181_113 : decode (js_b 181) 113 = .ok (.invokestatic 310, 3) := by decide +kernel
set_option maxRecDepth 20000 in
theorem d_181_116 : decode (js_b 181) 116 = .ok (.bipush (-11), 2) := by decide +kernel
set_option maxRecDepth 20000 in
theorem d_181_118 : decode (js_b 181) 118 = .ok (.if_icmp .ne 7, 3) := by decide +kernel
set_option maxRecDepth 20000 in
theorem d_181_121 : decode (js_b 181) 121 = .ok (.iconst 1, 1) := by decide +kernel
set_option maxRecDepth 20000 in
theorem d_181_122 : decode (js_b 181) 122 = .ok (.goto 4, 3) := by decide +kernel
set_option maxRecDepth 20000 in
theorem d_181_125 : decode (js_b 181) 125 = .ok (.iconst 0, 1) := by decide +kernel
set_option maxRecDepth 20000 in
theorem d_181_126 : decode (js_b 181) 126 = .ok (.ireturn, 1) := by decide +kernel
theorem ki_181_14 : js_OkG 181 14 (o_ic 8 16) := js_St.okG (st_bipush rfl d_181_14) (fun _ _ _ _ _ => rfl)
theorem ki_181_13 : js_OkG 181 13 (o_il 1 14) := js_St.okG (st_iloadn rfl d_181_13) (fun _ _ _ _ _ => rfl)
theorem ki_181_12 : js_OkG 181 12 (o_is 2 13) := js_St.okG (st_istoren rfl (Nat.le_of_ble_eq_true rfl) d_181_12) (fun _ _ _ _ _ => rfl)
theorem ki_181_11 : js_OkG 181 11 (o_div 12) := js_St.okG (st_idiv d_181_11) (fun _ _ _ _ _ => rfl)
theorem ki_181_9 : js_OkG 181 9 (o_ic 8 11) := js_St.okG (st_bipush rfl d_181_9) (fun _ _ _ _ _ => rfl)
theorem ki_181_8 : js_OkG 181 8 (o_il 1 9) := js_St.okG (st_iloadn rfl d_181_8) (fun _ _ _ _ _ => rfl)
theorem ki_181_5 : js_OkG 181 5 (o_cge 69 8) := js_St.okG (st_icge (by decide) d_181_5) (fun _ _ _ _ _ => rfl)
theorem ki_181_3 : js_OkG 181 3 (o_ic 64 5) := js_St.okG (st_bipush rfl d_181_3) (fun _ _ _ _ _ => rfl)
theorem ki_181_2 : js_OkG 181 2 (o_il 1 3) := js_St.okG (st_iloadn rfl d_181_2) (fun _ _ _ _ _ => rfl)
theorem ki_181_1 : js_OkG 181 1 (o_is 1 2) := js_St.okG (st_istoren rfl (Nat.le_of_ble_eq_true rfl) d_181_1) (fun _ _ _ _ _ => rfl)
theorem ki_181_0 : js_OkG 181 0 (o_ic 0 1) := js_St.okG (st_iconst rfl d_181_0) (fun _ _ _ _ _ => rfl)
theorem ki_181_30 : js_OkG 181 30 (o_cI 153 3 0 33) := og_sIW rfl rfl kB_181_153 rfl kw_893 kw_894 d_181_30
theorem ki_181_29 : js_OkG 181 29 (o_il 3 30) := js_St.okG (st_iloadn rfl d_181_29) (fun _ _ _ _ _ => rfl)
theorem ki_181_28 : js_OkG 181 28 (o_il 2 29) := js_St.okG (st_iloadn rfl d_181_28) (fun _ _ _ _ _ => rfl)
theorem ki_181_27 : js_OkG 181 27 (o_al 0 28) := js_St.okG (st_aloadn rfl d_181_27) (fun _ _ _ _ _ => rfl)
theorem ki_181_24 : js_OkG 181 24 (o_ne 52 27) := js_St.okG (st_ifne (by decide) d_181_24) (fun _ _ _ _ _ => rfl)
theorem ki_181_21 : js_OkG 181 21 (o_cI 170 3 0 24) := og_sIP rfl rfl kB_181_170 rfl kw_772 kw_773 d_181_21
theorem ki_181_20 : js_OkG 181 20 (o_il 3 21) := js_St.okG (st_iloadn rfl d_181_20) (fun _ _ _ _ _ => rfl)
theorem ki_181_19 : js_OkG 181 19 (o_il 2 20) := js_St.okG (st_iloadn rfl d_181_19) (fun _ _ _ _ _ => rfl)
theorem ki_181_18 : js_OkG 181 18 (o_al 0 19) := js_St.okG (st_aloadn rfl d_181_18) (fun _ _ _ _ _ => rfl)
theorem ki_181_17 : js_OkG 181 17 (o_is 3 18) := js_St.okG (st_istoren rfl (Nat.le_of_ble_eq_true rfl) d_181_17) (fun _ _ _ _ _ => rfl)
theorem ki_181_16 : js_OkG 181 16 (o_rem 17) := js_St.okG (st_irem d_181_16) (fun _ _ _ _ _ => rfl)
theorem ki_181_47 : js_OkG 181 47 (o_ceq 63 50) := js_St.okG (st_iceq (by decide) d_181_47) (fun _ _ _ _ _ => rfl)
theorem ki_181_45 : js_OkG 181 45 (o_ic (-15) 47) := js_St.okG (st_bipush rfl d_181_45) (fun _ _ _ _ _ => rfl)
theorem ki_181_42 : js_OkG 181 42 (o_cI 154 4 0 45) := og_sIW rfl rfl kB_181_154 rfl kw_900 kw_901 d_181_42
theorem ki_181_41 : js_OkG 181 41 (o_ic 0 42) := js_St.okG (st_iconst rfl d_181_41) (fun _ _ _ _ _ => rfl)
theorem ki_181_40 : js_OkG 181 40 (o_il 3 41) := js_St.okG (st_iloadn rfl d_181_40) (fun _ _ _ _ _ => rfl)
theorem ki_181_39 : js_OkG 181 39 (o_il 2 40) := js_St.okG (st_iloadn rfl d_181_39) (fun _ _ _ _ _ => rfl)
theorem ki_181_38 : js_OkG 181 38 (o_al 0 39) := js_St.okG (st_aloadn rfl d_181_38) (fun _ _ _ _ _ => rfl)
theorem ki_181_35 : js_OkG 181 35 (o_cne 50 38) := js_St.okG (st_icne (by decide) d_181_35) (fun _ _ _ _ _ => rfl)
theorem ki_181_33 : js_OkG 181 33 (o_ic (-15) 35) := js_St.okG (st_bipush rfl d_181_33) (fun _ _ _ _ _ => rfl)
theorem ki_181_63 : js_OkG 181 63 (o_inc 1 1 66) := js_St.okG (st_iinc rfl (Nat.le_of_ble_eq_true rfl) d_181_63) (fun _ _ _ _ _ => rfl)
theorem ki_181_62 : js_OkG 181 62 (o_rZ) := og_rZ rfl d_181_62
theorem ki_181_61 : js_OkG 181 61 (o_ic 0 62) := js_St.okG (st_iconst rfl d_181_61) (fun _ _ _ _ _ => rfl)
theorem ki_181_58 : js_OkG 181 58 (o_ne 63 61) := js_St.okG (st_ifne (by decide) d_181_58) (fun _ _ _ _ _ => rfl)
theorem ki_181_55 : js_OkG 181 55 (o_cI 182 3 0 58) := og_sIP rfl rfl kB_181_182 rfl kw_907 kw_908 d_181_55
theorem ki_181_54 : js_OkG 181 54 (o_il 3 55) := js_St.okG (st_iloadn rfl d_181_54) (fun _ _ _ _ _ => rfl)
theorem ki_181_53 : js_OkG 181 53 (o_il 2 54) := js_St.okG (st_iloadn rfl d_181_53) (fun _ _ _ _ _ => rfl)
theorem ki_181_52 : js_OkG 181 52 (o_al 0 53) := js_St.okG (st_aloadn rfl d_181_52) (fun _ _ _ _ _ => rfl)
theorem ki_181_51 : js_OkG 181 51 (o_rZ) := og_rZ rfl d_181_51
theorem ki_181_50 : js_OkG 181 50 (o_ic 0 51) := js_St.okG (st_iconst rfl d_181_50) (fun _ _ _ _ _ => rfl)
theorem ki_181_79 : js_OkG 181 79 (o_ic (-113) 81) := js_St.okG (st_bipush rfl d_181_79) (fun _ _ _ _ _ => rfl)
theorem ki_181_76 : js_OkG 181 76 (o_cI 151 5 0 79) := og_sIW rfl rfl kB_181_151 rfl kw_910 kw_911 d_181_76
theorem ki_181_74 : js_OkG 181 74 (o_ic 9 76) := js_St.okG (st_bipush rfl d_181_74) (fun _ _ _ _ _ => rfl)
theorem ki_181_73 : js_OkG 181 73 (o_ic 0 74) := js_St.okG (st_iconst rfl d_181_73) (fun _ _ _ _ _ => rfl)
theorem ki_181_71 : js_OkG 181 71 (o_ic 9 73) := js_St.okG (st_bipush rfl d_181_71) (fun _ _ _ _ _ => rfl)
theorem ki_181_70 : js_OkG 181 70 (o_ic (-1) 71) := js_St.okG (st_iconst rfl d_181_70) (fun _ _ _ _ _ => rfl)
theorem ki_181_69 : js_OkG 181 69 (o_al 0 70) := js_St.okG (st_aloadn rfl d_181_69) (fun _ _ _ _ _ => rfl)
theorem ki_181_66 : js_OkG 181 66 (o_go 2) := js_St.okG (st_goto (by decide) d_181_66) (fun _ _ _ _ _ => rfl)
theorem ki_181_94 : js_OkG 181 94 (o_cne 125 97) := js_St.okG (st_icne (by decide) d_181_94) (fun _ _ _ _ _ => rfl)
theorem ki_181_92 : js_OkG 181 92 (o_ic (-13) 94) := js_St.okG (st_bipush rfl d_181_92) (fun _ _ _ _ _ => rfl)
theorem ki_181_89 : js_OkG 181 89 (o_cI 152 4 0 92) := og_sIW rfl rfl kB_181_152 rfl kw_935 kw_936 d_181_89
theorem ki_181_88 : js_OkG 181 88 (o_ic 0 89) := js_St.okG (st_iconst rfl d_181_88) (fun _ _ _ _ _ => rfl)
theorem ki_181_86 : js_OkG 181 86 (o_ic 9 88) := js_St.okG (st_bipush rfl d_181_86) (fun _ _ _ _ _ => rfl)
theorem ki_181_85 : js_OkG 181 85 (o_ic (-1) 86) := js_St.okG (st_iconst rfl d_181_85) (fun _ _ _ _ _ => rfl)
theorem ki_181_84 : js_OkG 181 84 (o_al 0 85) := js_St.okG (st_aloadn rfl d_181_84) (fun _ _ _ _ _ => rfl)
theorem ki_181_81 : js_OkG 181 81 (o_cne 125 84) := js_St.okG (st_icne (by decide) d_181_81) (fun _ _ _ _ _ => rfl)
theorem ki_181_111 : js_OkG 181 111 (o_ic (-1) 112) := js_St.okG (st_iconst rfl d_181_111) (fun _ _ _ _ _ => rfl)
theorem ki_181_110 : js_OkG 181 110 (o_ic 0 111) := js_St.okG (st_iconst rfl d_181_110) (fun _ _ _ _ _ => rfl)
theorem ki_181_109 : js_OkG 181 109 (o_al 0 110) := js_St.okG (st_aloadn rfl d_181_109) (fun _ _ _ _ _ => rfl)
theorem ki_181_106 : js_OkG 181 106 (o_cne 125 109) := js_St.okG (st_icne (by decide) d_181_106) (fun _ _ _ _ _ => rfl)
theorem ki_181_104 : js_OkG 181 104 (o_ic (-11) 106) := js_St.okG (st_bipush rfl d_181_104) (fun _ _ _ _ _ => rfl)
theorem ki_181_101 : js_OkG 181 101 (o_cI 153 3 0 104) := og_sIW rfl rfl kB_181_153 rfl kw_893 kw_894 d_181_101
theorem ki_181_100 : js_OkG 181 100 (o_ic 0 101) := js_St.okG (st_iconst rfl d_181_100) (fun _ _ _ _ _ => rfl)
theorem ki_181_98 : js_OkG 181 98 (o_ic 8 100) := js_St.okG (st_bipush rfl d_181_98) (fun _ _ _ _ _ => rfl)
theorem ki_181_97 : js_OkG 181 97 (o_al 0 98) := js_St.okG (st_aloadn rfl d_181_97) (fun _ _ _ _ _ => rfl)
theorem ki_181_126 : js_OkG 181 126 (o_rZ) := og_rZ rfl d_181_126
theorem ki_181_125 : js_OkG 181 125 (o_ic 0 126) := js_St.okG (st_iconst rfl d_181_125) (fun _ _ _ _ _ => rfl)
theorem ki_181_122 : js_OkG 181 122 (o_go 126) := js_St.okG (st_goto (by decide) d_181_122) (fun _ _ _ _ _ => rfl)
theorem ki_181_121 : js_OkG 181 121 (o_ic 1 122) := js_St.okG (st_iconst rfl d_181_121) (fun _ _ _ _ _ => rfl)
theorem ki_181_118 : js_OkG 181 118 (o_cne 125 121) := js_St.okG (st_icne (by decide) d_181_118) (fun _ _ _ _ _ => rfl)
theorem ki_181_116 : js_OkG 181 116 (o_ic (-11) 118) := js_St.okG (st_bipush rfl d_181_116) (fun _ _ _ _ _ => rfl)
theorem ki_181_113 : js_OkG 181 113 (o_cI 154 4 0 116) := og_sIW rfl rfl kB_181_154 rfl kw_900 kw_901 d_181_113
theorem ki_181_112 : js_OkG 181 112 (o_ic 0 113) := js_St.okG (st_iconst rfl d_181_112) (fun _ _ _ _ _ => rfl)
set_option maxRecDepth 20000 in
theorem mk_181 : js_mokG 181 := jk_tab (fun _ => js_St.okG st_bad (fun _ _ _ _ _ => rfl)) (show jk_all (js_OkG 181) 0 tb_181 from ⟨⟨ki_181_0, ⟨ki_181_1, ⟨ki_181_2, ⟨ki_181_3, ⟨kbadG, ⟨ki_181_5, ⟨kbadG, ⟨kbadG, ⟨ki_181_8, ⟨ki_181_9, ⟨kbadG, ⟨ki_181_11, ⟨ki_181_12, ⟨ki_181_13, ⟨ki_181_14, ⟨kbadG, trivial⟩⟩⟩⟩⟩⟩⟩⟩⟩⟩⟩⟩⟩⟩⟩⟩, ⟨⟨ki_181_16, ⟨ki_181_17, ⟨ki_181_18, ⟨ki_181_19, ⟨ki_181_20, ⟨ki_181_21, ⟨kbadG, ⟨kbadG, ⟨ki_181_24, ⟨kbadG, ⟨kbadG, ⟨ki_181_27, ⟨ki_181_28, ⟨ki_181_29, ⟨ki_181_30, ⟨kbadG, trivial⟩⟩⟩⟩⟩⟩⟩⟩⟩⟩⟩⟩⟩⟩⟩⟩, ⟨⟨kbadG, ⟨ki_181_33, ⟨kbadG, ⟨ki_181_35, ⟨kbadG, ⟨kbadG, ⟨ki_181_38, ⟨ki_181_39, ⟨ki_181_40, ⟨ki_181_41, ⟨ki_181_42, ⟨kbadG, ⟨kbadG, ⟨ki_181_45, ⟨kbadG, ⟨ki_181_47, trivial⟩⟩⟩⟩⟩⟩⟩⟩⟩⟩⟩⟩⟩⟩⟩⟩, ⟨⟨kbadG, ⟨kbadG, ⟨ki_181_50, ⟨ki_181_51, ⟨ki_181_52, ⟨ki_181_53, ⟨ki_181_54, ⟨ki_181_55, ⟨kbadG, ⟨kbadG, ⟨ki_181_58, ⟨kbadG, ⟨kbadG, ⟨ki_181_61, ⟨ki_181_62, ⟨ki_181_63, trivial⟩⟩⟩⟩⟩⟩⟩⟩⟩⟩⟩⟩⟩⟩⟩⟩, ⟨⟨kbadG, ⟨kbadG, ⟨ki_181_66, ⟨kbadG, ⟨kbadG, ⟨ki_181_69, ⟨ki_181_70, ⟨ki_181_71, ⟨kbadG, ⟨ki_181_73, ⟨ki_181_74, ⟨kbadG, ⟨ki_181_76, ⟨kbadG, ⟨kbadG, ⟨ki_181_79, trivial⟩⟩⟩⟩⟩⟩⟩⟩⟩⟩⟩⟩⟩⟩⟩⟩, ⟨⟨kbadG, ⟨ki_181_81, ⟨kbadG, ⟨kbadG, ⟨ki_181_84, ⟨ki_181_85, ⟨ki_181_86, ⟨kbadG, ⟨ki_181_88, ⟨ki_181_89, ⟨kbadG, ⟨kbadG, ⟨ki_181_92, ⟨kbadG, ⟨ki_181_94, ⟨kbadG, trivial⟩⟩⟩⟩⟩⟩⟩⟩⟩⟩⟩⟩⟩⟩⟩⟩, ⟨⟨kbadG, ⟨ki_181_97, ⟨ki_181_98, ⟨kbadG, ⟨ki_181_100, ⟨ki_181_101, ⟨kbadG, ⟨kbadG, ⟨ki_181_104, ⟨kbadG, ⟨ki_181_106, ⟨kbadG, ⟨kbadG, ⟨ki_181_109, ⟨ki_181_110, ⟨ki_181_111, trivial⟩⟩⟩⟩⟩⟩⟩⟩⟩⟩⟩⟩⟩⟩⟩⟩, ⟨⟨ki_181_112, ⟨ki_181_113, ⟨kbadG, ⟨kbadG, ⟨ki_181_116, ⟨kbadG, ⟨ki_181_118, ⟨kbadG, ⟨kbadG, ⟨ki_181_121, ⟨ki_181_122, ⟨kbadG, ⟨kbadG, ⟨ki_181_125, ⟨ki_181_126, trivial⟩⟩⟩⟩⟩⟩⟩⟩⟩⟩⟩⟩⟩⟩⟩, trivial⟩⟩⟩⟩⟩⟩⟩⟩)
set_option maxRecDepth 20000 in
theorem d_182_0 : decode (js_b 182) 0 = .ok (.iconst 0, 1) := by decide +kernel
set_option maxRecDepth 20000 in
theorem d_182_1 : decode (js_b 182) 1 = .ok (.istore_n 3, 1) := by decide +kernel
set_option maxRecDepth 20000 in
theorem d_182_2 : decode (js_b 182) 2 = .ok (.iconst 0, 1) := by decide +kernel
set_option maxRecDepth 20000 in
theorem d_182_3 : decode (js_b 182) 3 = .ok (.istore 4, 2) := by decide +kernel
set_option maxRecDepth 20000 in
theorem d_182_5 : decode (js_b 182) 5 = .ok (.iload 4, 2) := by decide +kernel
set_option maxRecDepth 20000 in
theorem d_182_7 : decode (js_b 182) 7 = .ok (.iconst 4, 1) := by decide +kernel
set_option maxRecDepth 20000 in
theorem d_182_8 : decode (js_b 182) 8 = .ok (.if_icmp .ge 28, 3) := by decide +kernel
set_option maxRecDepth 20000 in
theorem d_182_11 : decode (js_b 182) 11 = .ok (.iload_n 3, 1) := by decide +kernel
set_option maxRecDepth 20000 in
theorem d_182_12 : decode (js_b 182) 12 = .ok (.aload_n 0, 1) := by decide +kernel
set_option maxRecDepth 20000 in
theorem d_182_13 : decode (js_b 182) 13 = .ok (.iload_n 1, 1) := by decide +kernel
set_option maxRecDepth 20000 in
theorem d_182_14 : decode (js_b 182) 14 = .ok (.iload_n 2, 1) := by decide +kernel
set_option maxRecDepth 20000 in
theorem d_182_15 : decode (js_b 182) 15 = .ok (.iload 4, 2) := by decide +kernel
set_option maxRecDepth 20000 in
theorem d_182_17 : decode (js_b 182) 17 = .ok (.invokestatic 178, 3) := by decide +kernel
set_option maxRecDepth 20000 in
theorem d_182_20 : decode (js_b 182) 20 = .ok (.ifCond .lt 7, 3) := by decide +kernel
set_option maxRecDepth 20000 in
theorem d_182_23 : decode (js_b 182) 23 = .ok (.iconst 1, 1) := by decide +kernel
set_option maxRecDepth 20000 in
theorem d_182_24 : decode (js_b 182) 24 = .ok (.goto 4, 3) := by decide +kernel
set_option maxRecDepth 20000 in
theorem d_182_27 : decode (js_b 182) 27 = .ok (.iconst 0, 1) := by decide +kernel
set_option maxRecDepth 20000 in
theorem d_182_28 : decode (js_b 182) 28 = .ok (.iadd, 1) := by decide +kernel
set_option maxRecDepth 20000 in
theorem d_182_29 : decode (js_b 182) 29 = .ok (.istore_n 3, 1) := by decide +kernel
set_option maxRecDepth 20000 in
theorem d_182_30 : decode (js_b 182) 30 = .ok (.iinc 4 1, 3) := by decide +kernel
set_option maxRecDepth 20000 in
theorem d_182_33 : decode (js_b 182) 33 = .ok (.goto (-28), 3) := by decide +kernel
set_option maxRecDepth 20000 in
theorem d_182_36 : decode (js_b 182) 36 = .ok (.aload_n 0, 1) := by decide +kernel
set_option maxRecDepth 20000 in
theorem d_182_37 : decode (js_b 182) 37 = .ok (.invokevirtual 193, 3) := by decide +kernel
set_option maxRecDepth 20000 in
theorem d_182_40 : decode (js_b 182) 40 = .ok (.istore 4, 2) := by decide +kernel
set_option maxRecDepth 20000 in
theorem d_182_42 : decode (js_b 182) 42 = .ok (.iconst 0, 1) := by decide +kernel
set_option maxRecDepth 20000 in
theorem d_182_43 : decode (js_b 182) 43 = .ok (.istore 5, 2) := by decide +kernel
set_option maxRecDepth 20000 in
theorem d_182_45 : decode (js_b 182) 45 = .ok (.iload 5, 2) := by decide +kernel
set_option maxRecDepth 20000 in
theorem d_182_47 : decode (js_b 182) 47 = .ok (.iload 4, 2) := by decide +kernel
set_option maxRecDepth 20000 in
theorem d_182_49 : decode (js_b 182) 49 = .ok (.if_icmp .ge 173, 3) := by decide +kernel
set_option maxRecDepth 20000 in
theorem d_182_52 : decode (js_b 182) 52 = .ok (.aload_n 0, 1) := by decide +kernel
set_option maxRecDepth 20000 in
theorem d_182_53 : decode (js_b 182) 53 = .ok (.iload 5, 2) := by decide +kernel
set_option maxRecDepth 20000 in
theorem d_182_55 : decode (js_b 182) 55 = .ok (.invokevirtual 24, 3) := by decide +kernel
set_option maxRecDepth 20000 in
theorem d_182_58 : decode (js_b 182) 58 = .ok (.istore 6, 2) := by decide +kernel
set_option maxRecDepth 20000 in
theorem d_182_60 : decode (js_b 182) 60 = .ok (.iconst 0, 1) := by decide +kernel
set_option maxRecDepth 20000 in
theorem d_182_61 : decode (js_b 182) 61 = .ok (.istore 7, 2) := by decide +kernel
set_option maxRecDepth 20000 in
theorem d_182_63 : decode (js_b 182) 63 = .ok (.iload 7, 2) := by decide +kernel
set_option maxRecDepth 20000 in
theorem d_182_65 : decode (js_b 182) 65 = .ok (.iconst 4, 1) := by decide +kernel
set_option maxRecDepth 20000 in
theorem d_182_66 : decode (js_b 182) 66 = .ok (.if_icmp .ge 34, 3) := by decide +kernel
set_option maxRecDepth 20000 in
theorem d_182_69 : decode (js_b 182) 69 = .ok (.aload_n 0, 1) := by decide +kernel
set_option maxRecDepth 20000 in
theorem d_182_70 : decode (js_b 182) 70 = .ok (.iload 6, 2) := by decide +kernel
set_option maxRecDepth 20000 in
theorem d_182_72 : decode (js_b 182) 72 = .ok (.iload_n 1, 1) := by decide +kernel
set_option maxRecDepth 20000 in
theorem d_182_73 : decode (js_b 182) 73 = .ok (.iload_n 2, 1) := by decide +kernel
set_option maxRecDepth 20000 in
theorem d_182_74 : decode (js_b 182) 74 = .ok (.iload 7, 2) := by decide +kernel
set_option maxRecDepth 20000 in
theorem d_182_76 : decode (js_b 182) 76 = .ok (.invokestatic 316, 3) := by decide +kernel
set_option maxRecDepth 20000 in
theorem d_182_79 : decode (js_b 182) 79 = .ok (.aload_n 0, 1) := by decide +kernel
set_option maxRecDepth 20000 in
theorem d_182_80 : decode (js_b 182) 80 = .ok (.iload 6, 2) := by decide +kernel
set_option maxRecDepth 20000 in
theorem d_182_82 : decode (js_b 182) 82 = .ok (.iload_n 1, 1) := by decide +kernel
set_option maxRecDepth 20000 in
theorem d_182_83 : decode (js_b 182) 83 = .ok (.iload_n 2, 1) := by decide +kernel
set_option maxRecDepth 20000 in
theorem d_182_84 : decode (js_b 182) 84 = .ok (.iload 7, 2) := by decide +kernel
set_option maxRecDepth 20000 in
theorem d_182_86 : decode (js_b 182) 86 = .ok (.invokestatic 186, 3) := by decide +kernel
set_option maxRecDepth 20000 in
theorem d_182_89 : decode (js_b 182) 89 = .ok (.if_icmp .eq 5, 3) := by decide +kernel
set_option maxRecDepth 20000 in
theorem d_182_92 : decode (js_b 182) 92 = .ok (.iconst 0, 1) := by decide +kernel
set_option maxRecDepth 20000 in
theorem d_182_93 : decode (js_b 182) 93 = .ok (.ireturn, 1) := by decide +kernel
set_option maxRecDepth 20000 in
theorem d_182_94 : decode (js_b 182) 94 = .ok (.iinc 7 1, 3) := by decide +kernel
set_option maxRecDepth 20000 in
theorem d_182_97 : decode (js_b 182) 97 = .ok (.goto (-34), 3) := by decide +kernel
set_option maxRecDepth 20000 in
theorem d_182_100 : decode (js_b 182) 100 = .ok (.aload_n 0, 1) := by decide +kernel
set_option maxRecDepth 20000 in
theorem d_182_101 : decode (js_b 182) 101 = .ok (.iload_n 1, 1) := by decide +kernel
set_option maxRecDepth 20000 in
theorem d_182_102 : decode (js_b 182) 102 = .ok (.iload_n 2, 1) := by decide +kernel
set_option maxRecDepth 20000 in
theorem d_182_103 : decode (js_b 182) 103 = .ok (.iload 5, 2) := by decide +kernel
set_option maxRecDepth 20000 in
theorem d_182_105 : decode (js_b 182) 105 = .ok (.invokestatic 310, 3) := by decide +kernel
set_option maxRecDepth 20000 in
theorem d_182_108 : decode (js_b 182) 108 = .ok (.istore 7, 2) := by decide +kernel
set_option maxRecDepth 20000 in
theorem d_182_110 : decode (js_b 182) 110 = .ok (.iload 5, 2) := by decide +kernel
set_option maxRecDepth 20000 in
theorem d_182_112 : decode (js_b 182) 112 = .ok (.ifCond .ne 7, 3) := by decide +kernel
set_option maxRecDepth 20000 in
theorem d_182_115 : decode (js_b 182) 115 = .ok (.iconst (-1), 1) := by decide +kernel
set_option maxRecDepth 20000 in
theorem d_182_116 : decode (js_b 182) 116 = .ok (.goto 13, 3) := by decide +kernel
set_option maxRecDepth 20000 in
theorem d_182_119 : decode (js_b 182) 119 = .ok (.aload_n 0, 1) := by decide +kernel
set_option maxRecDepth 20000 in
theorem d_182_120 : decode (js_b 182) 120 = .ok (.iload_n 1, 1) := by decide +kernel
set_option maxRecDepth 20000 in
theorem d_182_121 : decode (js_b 182) 121 = .ok (.iload_n 2, 1) := by decide +kernel
set_option maxRecDepth 20000 in
theorem d_182_122 : decode (js_b 182) 122 = .ok (.iload 5, 2) := by decide +kernel
set_option maxRecDepth 20000 in
theorem d_182_124 : decode (js_b 182) 124 = .ok (.iconst 1, 1) := by decide +kernel
set_option maxRecDepth 20000 in
theorem d_182_125 : decode (js_b 182) 125 = .ok (.isub, 1) := by decide +kernel
set_option maxRecDepth 20000 in
theorem d_182_126 : decode (js_b 182) 126 = .ok (.invokestatic 310, 3) := by decide +kernel
set_option maxRecDepth 20000 in
theorem d_182_129 : decode (js_b 182) 129 = .ok (.istore 8, 2) := by decide +kernel
set_option maxRecDepth 20000 in
theorem d_182_131 : decode (js_b 182) 131 = .ok (.iload 5, 2) := by decide +kernel
set_option maxRecDepth 20000 in
theorem d_182_133 : decode (js_b 182) 133 = .ok (.ifCond .ne 7, 3) := by decide +kernel
set_option maxRecDepth 20000 in
theorem d_182_136 : decode (js_b 182) 136 = .ok (.iconst 1, 1) := by decide +kernel
set_option maxRecDepth 20000 in
theorem d_182_137 : decode (js_b 182) 137 = .ok (.goto 20, 3) := by decide +kernel
set_option maxRecDepth 20000 in
theorem d_182_140 : decode (js_b 182) 140 = .ok (.aload_n 0, 1) := by decide +kernel
set_option maxRecDepth 20000 in
theorem d_182_141 : decode (js_b 182) 141 = .ok (.iload 8, 2) := by decide +kernel
set_option maxRecDepth 20000 in
theorem d_182_143 : decode (js_b 182) 143 = .ok (.iload_n 1, 1) := by decide +kernel
set_option maxRecDepth 20000 in
theorem d_182_144 : decode (js_b 182) 144 = .ok (.iload_n 2, 1) := by decide +kernel
set_option maxRecDepth 20000 in
theorem d_182_145 : decode (js_b 182) 145 = .ok (.invokestatic 196, 3) := by decide +kernel
set_option maxRecDepth 20000 in
theorem d_182_148 : decode (js_b 182) 148 = .ok (.aload_n 0, 1) := by decide +kernel
set_option maxRecDepth 20000 in
theorem d_182_149 : decode (js_b 182) 149 = .ok (.iload 7, 2) := by decide +kernel
set_option maxRecDepth 20000 in
theorem d_182_151 : decode (js_b 182) 151 = .ok (.iload_n 1, 1) := by decide +kernel
set_option maxRecDepth 20000 in
theorem d_182_152 : decode (js_b 182) 152 = .ok (.iload_n 2, 1) := by decide +kernel
set_option maxRecDepth 20000 in
theorem d_182_153 : decode (js_b 182) 153 = .ok (.invokestatic 196, 3) := by decide +kernel
set_option maxRecDepth 20000 in
theorem d_182_156 : decode (js_b 182) 156 = .ok (.isub, 1) := by decide +kernel
set_option maxRecDepth 20000 in
theorem d_182_157 : decode (js_b 182) 157 = .ok (.istore 9, 2) := by decide +kernel
set_option maxRecDepth 20000 in
theorem d_182_159 : decode (js_b 182) 159 = .ok (.aload_n 0, 1) := by decide +kernel
set_option maxRecDepth 20000 in
theorem d_182_160 : decode (js_b 182) 160 = .ok (.iload 6, 2) := by decide +kernel
set_option maxRecDepth 20000 in
theorem d_182_162 : decode (js_b 182) 162 = .ok (.iload_n 1, 1) := by decide +kernel
set_option maxRecDepth 20000 in
theorem d_182_163 : decode (js_b 182) 163 = .ok (.iload_n 2, 1) := by decide +kernel
set_option maxRecDepth 20000 in
theorem d_182_164 : decode (js_b 182) 164 = .ok (.invokestatic 318, 3) := by decide +kernel
set_option maxRecDepth 20000 in
theorem d_182_167 : decode (js_b 182) 167 = .ok (.aload_n 0, 1) := by decide +kernel
set_option maxRecDepth 20000 in
theorem d_182_168 : decode (js_b 182) 168 = .ok (.iload 6, 2) := by decide +kernel
set_option maxRecDepth 20000 in
theorem d_182_170 : decode (js_b 182) 170 = .ok (.iload_n 1, 1) := by decide +kernel
set_option maxRecDepth 20000 in
theorem d_182_171 : decode (js_b 182) 171 = .ok (.iload_n 2, 1) := by decide +kernel
set_option maxRecDepth 20000 in
theorem d_182_172 : decode (js_b 182) 172 = .ok (.invokestatic 190, 3) := by decide +kernel
set_option maxRecDepth 20000 in
theorem d_182_175 : decode (js_b 182) 175 = .ok (.if_icmp .ne 39, 3) := by decide +kernel
set_option maxRecDepth 20000 in
theorem d_182_178 : decode (js_b 182) 178 = .ok (.iload 7, 2) := by decide +kernel
set_option maxRecDepth 20000 in
theorem d_182_180 : decode (js_b 182) 180 = .ok (.ifCond .lt 34, 3) := by decide +kernel
set_option maxRecDepth 20000 in
theorem d_182_183 : decode (js_b 182) 183 = .ok (.iload 9, 2) := by decide +kernel
set_option maxRecDepth 20000 in
theorem d_182_185 : decode (js_b 182) 185 = .ok (.ifCond .lt 29, 3) := by decide +kernel
set_option maxRecDepth 20000 in
theorem d_182_188 : decode (js_b 182) 188 = .ok (.iload 9, 2) := by decide +kernel
set_option maxRecDepth 20000 in
theorem d_182_190 : decode (js_b 182) 190 = .ok (.ifCond .ne 10, 3) := by decide +kernel
set_option maxRecDepth 20000 in
theorem d_182_193 : decode (js_b 182) 193 = .ok (.iload 8, 2) := by decide +kernel
set_option maxRecDepth 20000 in
theorem d_182_195 : decode (js_b 182) 195 = .ok (.iload 7, 2) := by decide +kernel
set_option maxRecDepth 20000 in
theorem d_182_197 : decode (js_b 182) 197 = .ok (.if_icmp .gt 17, 3) := by decide +kernel
set_option maxRecDepth 20000 in
theorem d_182_200 : decode (js_b 182) 200 = .ok (.aload_n 0, 1) := by decide +kernel
set_option maxRecDepth 20000 in
theorem d_182_201 : decode (js_b 182) 201 = .ok (.iload 6, 2) := by decide +kernel
set_option maxRecDepth 20000 in
theorem d_182_203 : decode (js_b 182) 203 = .ok (.iload_n 1, 1) := by decide +kernel
set_option maxRecDepth 20000 in
theorem d_182_204 : decode (js_b 182) 204 = .ok (.iload_n 2, 1) := by decide +kernel
set_option maxRecDepth 20000 in
theorem d_182_205 : decode (js_b 182) 205 = .ok (.iconst 4, 1) := by decide +kernel
set_option maxRecDepth 20000 in
theorem d_182_206 : decode (js_b 182) 206 = .ok (.invokestatic 316, 3) := by decide +kernel
set_option maxRecDepth 20000 in
theorem d_182_209 : decode (js_b 182) 209 = .ok (.bipush (-112), 2) := by decide +kernel
set_option maxRecDepth 20000 in
theorem d_182_211 : decode (js_b 182) 211 = .ok (.if_icmp .eq 5, 3) := by decide +kernel
set_option maxRecDepth 20000 in
theorem d_182_214 : decode (js_b 182) 214 = .ok (.iconst 0, 1) := by decide +kernel
set_option maxRecDepth 20000 in
theorem d_182_215 : decode (js_b 182) 215 = .ok (.ireturn, 1) := by decide +kernel
set_option maxRecDepth 20000 in
theorem d_182_216 : decode (js_b 182) 216 = .ok (.iinc 5 1, 3) := by decide +kernel
set_option maxRecDepth 20000 in
theorem d_182_219 : decode (js_b 182) 219 = .ok (.goto (-174), 3) := by decide +kernel
set_option maxRecDepth 20000 in
theorem d_182_222 : decode (js_b 182) 222 = .ok (.aload_n 0, 1) := by decide +kernel
set_option maxRecDepth 20000 in
theorem d_182_223 : decode (js_b 182) 223 = .ok (.iload_n 1, 1) := by decide +kernel
set_option maxRecDepth 20000 in
theorem d_182_224 : decode (js_b 182) 224 = .ok (.iload_n 2, 1) := by decide +kernel
set_option maxRecDepth 20000 in
theorem d_182_225 : decode (js_b 182) 225 = .ok (.invokestatic 263, 3) := by decide +kernel
set_option maxRecDepth 20000 in
theorem d_182_228 : decode (js_b 182) 228 = .ok (.iload_n 3, 1) := by decide +kernel
set_option maxRecDepth 20000 in
theorem d_182_229 : decode (js_b 182) 229 = .ok (.if_icmp .ne 47, 3) := by decide +kernel
set_option maxRecDepth 20000 in
theorem d_182_232 : decode (js_b 182) 232 = .ok (.aload_n 0, 1) := by decide +kernel
set_option maxRecDepth 20000 in
theorem d_182_233 : decode (js_b 182) 233 = .ok (.iload_n 1, 1) := by decide +kernel
set_option maxRecDepth 20000 in
theorem d_182_234 : decode (js_b 182) 234 = .ok (.iload_n 2, 1) := by decide +kernel
set_option maxRecDepth 20000 in
theorem d_182_235 : decode (js_b 182) 235 = .ok (.invokestatic 308, 3) := by decide +kernel
set_option maxRecDepth 20000 in
theorem d_182_238 : decode (js_b 182) 238 = .ok (.aload_n 0, 1) := by decide +kernel
set_option maxRecDepth 20000 in
theorem d_182_239 : decode (js_b 182) 239 = .ok (.iload_n 1, 1) := by decide +kernel
set_option maxRecDepth 20000 in
theorem d_182_240 : decode (js_b 182) 240 = .ok (.iload_n 2, 1) := by decide +kernel
set_option maxRecDepth 20000 in
theorem d_182_241 : decode (js_b 182) 241 = .ok (.invokestatic 320, 3) := by decide +kernel
set_option maxRecDepth 20000 in
theorem d_182_244 : decode (js_b 182) 244 = .ok (.if_icmp .ne 32, 3) := by decide +kernel
set_option maxRecDepth 20000 in
theorem d_182_247 : decode (js_b 182) 247 = .ok (.aload_n 0, 1) := by decide +kernel
set_option maxRecDepth 20000 in
theorem d_182_248 : decode (js_b 182) 248 = .ok (.iload_n 1, 1) := by decide +kernel
set_option maxRecDepth 20000 in
theorem d_182_249 : decode (js_b 182) 249 = .ok (.iload_n 2, 1) := by decide +kernel
set_option maxRecDepth 20000 in
theorem d_182_250 : decode (js_b 182) 250 = .ok (.iload 4, 2) := by decide +kernel
set_option maxRecDepth 20000 in
theorem d_182_252 : decode (js_b 182) 252 = .ok (.invokestatic 310, 3) := by decide +kernel
set_option maxRecDepth 20000 in
theorem d_182_255 : decode (js_b 182) 255 = .ok (.bipush (-13), 2) := by decide +kernel
set_option maxRecDepth 20000 in
theorem d_182_257 : decode (js_b 182) 257 = .ok (.if_icmp .ne 19, 3) := by decide +kernel
set_option maxRecDepth 20000 in
theorem d_182_260 : decode (js_b 182) 260 = .ok (.aload_n 0, 1) := by decide +kernel
set_option maxRecDepth 20000 in
theorem d_182_261 : decode (js_b 182) 261 = .ok (.iload_n 1, 1) := by decide +kernel
set_option maxRecDepth 20000 in
theorem d_182_262 : decode (js_b 182) 262 = .ok (.iload_n 2, 1) := by decide +kernel
set_option maxRecDepth 20000 in
theorem d_182_263 : decode (js_b 182) 263 = .ok (.iconst (-1), 1) := by decide +kernel
set_option maxRecDepth 20000 in
theorem d_182_264 : decode (js_b 182) 264 = .ok (.invokestatic 310, 3) := by decide +kernel
set_option maxRecDepth 20000 in
theorem d_182_267 : decode (js_b 182) 267 = .ok (.bipush (-13), 2) := by decide +kernel
set_option maxRecDepth 20000 in
theorem d_182_269 : decode (js_b 182) 269 = .ok (.if_icmp .ne 7, 3) := by decide +kernel
set_option maxRecDepth 20000 in
theorem d_182_272 : decode (js_b 182) 272 = .ok (.iconst 1, 1) := by decide +kernel
set_option maxRecDepth 20000 in
theorem d_182_273 : decode (js_b 182) 273 = .ok (.goto 4, 3) := by decide +kernel
set_option maxRecDepth 20000 in
theorem d_182_276 : decode (js_b 182) 276 = .ok (.iconst 0, 1) := by decide +kernel
set_option maxRecDepth 20000 in
theorem d_182_277 : decode (js_b 182) 277 = .ok (.ireturn, 1) := by decide +kernel
theorem ki_182_15 : js_OkG 182 15 (o_il 4 17) := js_St.okG (st_iload d_182_15) (fun _ _ _ _ _ => rfl)
theorem ki_182_14 : js_OkG 182 14 (o_il 2 15) := js_St.okG (st_iloadn rfl d_182_14) (fun _ _ _ _ _ => rfl)
theorem ki_182_13 : js_OkG 182 13 (o_il 1 14) := js_St.okG (st_iloadn rfl d_182_13) (fun _ _ _ _ _ => rfl)
theorem ki_182_12 : js_OkG 182 12 (o_al 0 13) := js_St.okG (st_aloadn rfl d_182_12) (fun _ _ _ _ _ => rfl)
theorem ki_182_11 : js_OkG 182 11 (o_il 3 12) := js_St.okG (st_iloadn rfl d_182_11) (fun _ _ _ _ _ => rfl)
theorem ki_182_8 : js_OkG 182 8 (o_cge 36 11) := js_St.okG (st_icge (by decide) d_182_8) (fun _ _ _ _ _ => rfl)
theorem ki_182_7 : js_OkG 182 7 (o_ic 4 8) := js_St.okG (st_iconst rfl d_182_7) (fun _ _ _ _ _ => rfl)
theorem ki_182_5 : js_OkG 182 5 (o_il 4 7) := js_St.okG (st_iload d_182_5) (fun _ _ _ _ _ => rfl)
theorem ki_182_3 : js_OkG 182 3 (o_is 4 5) := js_St.okG (st_istore (Nat.le_of_ble_eq_true rfl) d_182_3) (fun _ _ _ _ _ => rfl)
theorem ki_182_2 : js_OkG 182 2 (o_ic 0 3) := js_St.okG (st_iconst rfl d_182_2) (fun _ _ _ _ _ => rfl)
theorem ki_182_1 : js_OkG 182 1 (o_is 3 2) := js_St.okG (st_istoren rfl (Nat.le_of_ble_eq_true rfl) d_182_1) (fun _ _ _ _ _ => rfl)
theorem ki_182_0 : js_OkG 182 0 (o_ic 0 1) := js_St.okG (st_iconst rfl d_182_0) (fun _ _ _ _ _ => rfl)
theorem ki_182_30 : js_OkG 182 30 (o_inc 4 1 33) := js_St.okG (st_iinc rfl (Nat.le_of_ble_eq_true rfl) d_182_30) (fun _ _ _ _ _ => rfl)
theorem ki_182_29 : js_OkG 182 29 (o_is 3 30) := js_St.okG (st_istoren rfl (Nat.le_of_ble_eq_true rfl) d_182_29) (fun _ _ _ _ _ => rfl)
theorem ki_182_28 : js_OkG 182 28 (o_b2 (fun x y => x + y) 29) := js_St.okG (st_iadd d_182_28) (fun _ _ _ _ _ => rfl)
theorem ki_182_27 : js_OkG 182 27 (o_ic 0 28) := js_St.okG (st_iconst rfl d_182_27) (fun _ _ _ _ _ => rfl)
theorem ki_182_24 : js_OkG 182 24 (o_go 28) := js_St.okG (st_goto (by decide) d_182_24) (fun _ _ _ _ _ => rfl)
theorem ki_182_23 : js_OkG 182 23 (o_ic 1 24) := js_St.okG (st_iconst rfl d_182_23) (fun _ _ _ _ _ => rfl)
theorem ki_182_20 : js_OkG 182 20 (o_lt 27 23) := js_St.okG (st_iflt (by decide) d_182_20) (fun _ _ _ _ _ => rfl)
theorem ki_182_17 : js_OkG 182 17 (o_cI 169 4 0 20) := og_sIP rfl rfl kB_182_169 rfl kw_775 kw_776 d_182_17
theorem ki_182_47 : js_OkG 182 47 (o_il 4 49) := js_St.okG (st_iload d_182_47) (fun _ _ _ _ _ => rfl)
theorem ki_182_45 : js_OkG 182 45 (o_il 5 47) := js_St.okG (st_iload d_182_45) (fun _ _ _ _ _ => rfl)
theorem ki_182_43 : js_OkG 182 43 (o_is 5 45) := js_St.okG (st_istore (Nat.le_of_ble_eq_true rfl) d_182_43) (fun _ _ _ _ _ => rfl)
theorem ki_182_42 : js_OkG 182 42 (o_ic 0 43) := js_St.okG (st_iconst rfl d_182_42) (fun _ _ _ _ _ => rfl)
theorem ki_182_40 : js_OkG 182 40 (o_is 4 42) := js_St.okG (st_istore (Nat.le_of_ble_eq_true rfl) d_182_40) (fun _ _ _ _ _ => rfl)
theorem ki_182_37 : js_OkG 182 37 (o_cI 63 1 8 40) := og_cI (site_V kk_182_63 (by decide) kw_750 kw_751 kw_752 (fun t ht => by cases ht; exact Or.inl ⟨by decide, _, rfl, rfl⟩) d_182_37) rfl rfl
theorem ki_182_36 : js_OkG 182 36 (o_al 0 37) := js_St.okG (st_aloadn rfl d_182_36) (fun _ _ _ _ _ => rfl)
theorem ki_182_33 : js_OkG 182 33 (o_go 5) := js_St.okG (st_goto (by decide) d_182_33) (fun _ _ _ _ _ => rfl)
theorem ki_182_63 : js_OkG 182 63 (o_il 7 65) := js_St.okG (st_iload d_182_63) (fun _ _ _ _ _ => rfl)
theorem ki_182_61 : js_OkG 182 61 (o_is 7 63) := js_St.okG (st_istore (Nat.le_of_ble_eq_true rfl) d_182_61) (fun _ _ _ _ _ => rfl)
theorem ki_182_60 : js_OkG 182 60 (o_ic 0 61) := js_St.okG (st_iconst rfl d_182_60) (fun _ _ _ _ _ => rfl)
theorem ki_182_58 : js_OkG 182 58 (o_is 6 60) := js_St.okG (st_istore (Nat.le_of_ble_eq_true rfl) d_182_58) (fun _ _ _ _ _ => rfl)
theorem ki_182_55 : js_OkG 182 55 (o_cI 64 2 8 58) := og_cI (site_V kk_182_64 (by decide) kw_670 kw_671 kw_672 (fun t ht => by cases ht; exact Or.inl ⟨by decide, _, rfl, rfl⟩) d_182_55) rfl rfl
theorem ki_182_53 : js_OkG 182 53 (o_il 5 55) := js_St.okG (st_iload d_182_53) (fun _ _ _ _ _ => rfl)
theorem ki_182_52 : js_OkG 182 52 (o_al 0 53) := js_St.okG (st_aloadn rfl d_182_52) (fun _ _ _ _ _ => rfl)
theorem ki_182_49 : js_OkG 182 49 (o_cge 222 52) := js_St.okG (st_icge (by decide) d_182_49) (fun _ _ _ _ _ => rfl)
theorem ki_182_79 : js_OkG 182 79 (o_al 0 80) := js_St.okG (st_aloadn rfl d_182_79) (fun _ _ _ _ _ => rfl)
theorem ki_182_76 : js_OkG 182 76 (o_cI 151 5 0 79) := og_sIW rfl rfl kB_182_151 rfl kw_910 kw_911 d_182_76
theorem ki_182_74 : js_OkG 182 74 (o_il 7 76) := js_St.okG (st_iload d_182_74) (fun _ _ _ _ _ => rfl)
theorem ki_182_73 : js_OkG 182 73 (o_il 2 74) := js_St.okG (st_iloadn rfl d_182_73) (fun _ _ _ _ _ => rfl)
theorem ki_182_72 : js_OkG 182 72 (o_il 1 73) := js_St.okG (st_iloadn rfl d_182_72) (fun _ _ _ _ _ => rfl)
theorem ki_182_70 : js_OkG 182 70 (o_il 6 72) := js_St.okG (st_iload d_182_70) (fun _ _ _ _ _ => rfl)
theorem ki_182_69 : js_OkG 182 69 (o_al 0 70) := js_St.okG (st_aloadn rfl d_182_69) (fun _ _ _ _ _ => rfl)
theorem ki_182_66 : js_OkG 182 66 (o_cge 100 69) := js_St.okG (st_icge (by decide) d_182_66) (fun _ _ _ _ _ => rfl)
theorem ki_182_65 : js_OkG 182 65 (o_ic 4 66) := js_St.okG (st_iconst rfl d_182_65) (fun _ _ _ _ _ => rfl)
theorem ki_182_94 : js_OkG 182 94 (o_inc 7 1 97) := js_St.okG (st_iinc rfl (Nat.le_of_ble_eq_true rfl) d_182_94) (fun _ _ _ _ _ => rfl)
theorem ki_182_93 : js_OkG 182 93 (o_rZ) := og_rZ rfl d_182_93
theorem ki_182_92 : js_OkG 182 92 (o_ic 0 93) := js_St.okG (st_iconst rfl d_182_92) (fun _ _ _ _ _ => rfl)
theorem ki_182_89 : js_OkG 182 89 (o_ceq 94 92) := js_St.okG (st_iceq (by decide) d_182_89) (fun _ _ _ _ _ => rfl)
theorem ki_182_86 : js_OkG 182 86 (o_cI 172 5 0 89) := og_sIP rfl rfl kB_182_172 rfl kw_923 kw_924 d_182_86
theorem ki_182_84 : js_OkG 182 84 (o_il 7 86) := js_St.okG (st_iload d_182_84) (fun _ _ _ _ _ => rfl)
theorem ki_182_83 : js_OkG 182 83 (o_il 2 84) := js_St.okG (st_iloadn rfl d_182_83) (fun _ _ _ _ _ => rfl)
theorem ki_182_82 : js_OkG 182 82 (o_il 1 83) := js_St.okG (st_iloadn rfl d_182_82) (fun _ _ _ _ _ => rfl)
theorem ki_182_80 : js_OkG 182 80 (o_il 6 82) := js_St.okG (st_iload d_182_80) (fun _ _ _ _ _ => rfl)
theorem ki_182_110 : js_OkG 182 110 (o_il 5 112) := js_St.okG (st_iload d_182_110) (fun _ _ _ _ _ => rfl)
theorem ki_182_108 : js_OkG 182 108 (o_is 7 110) := js_St.okG (st_istore (Nat.le_of_ble_eq_true rfl) d_182_108) (fun _ _ _ _ _ => rfl)
theorem ki_182_105 : js_OkG 182 105 (o_cI 154 4 0 108) := og_sIW rfl rfl kB_182_154 rfl kw_900 kw_901 d_182_105
theorem ki_182_103 : js_OkG 182 103 (o_il 5 105) := js_St.okG (st_iload d_182_103) (fun _ _ _ _ _ => rfl)
theorem ki_182_102 : js_OkG 182 102 (o_il 2 103) := js_St.okG (st_iloadn rfl d_182_102) (fun _ _ _ _ _ => rfl)
theorem ki_182_101 : js_OkG 182 101 (o_il 1 102) := js_St.okG (st_iloadn rfl d_182_101) (fun _ _ _ _ _ => rfl)
theorem ki_182_100 : js_OkG 182 100 (o_al 0 101) := js_St.okG (st_aloadn rfl d_182_100) (fun _ _ _ _ _ => rfl)
theorem ki_182_97 : js_OkG 182 97 (o_go 63) := js_St.okG (st_goto (by decide) d_182_97) (fun _ _ _ _ _ => rfl)
theorem ki_182_126 : js_OkG 182 126 (o_cI 154 4 0 129) := og_sIW rfl rfl kB_182_154 rfl kw_900 kw_901 d_182_126
theorem ki_182_125 : js_OkG 182 125 (o_b2 (fun x y => x - y) 126) := js_St.okG (st_isub d_182_125) (fun _ _ _ _ _ => rfl)
theorem ki_182_124 : js_OkG 182 124 (o_ic 1 125) := js_St.okG (st_iconst rfl d_182_124) (fun _ _ _ _ _ => rfl)
theorem ki_182_122 : js_OkG 182 122 (o_il 5 124) := js_St.okG (st_iload d_182_122) (fun _ _ _ _ _ => rfl)
theorem ki_182_121 : js_OkG 182 121 (o_il 2 122) := js_St.okG (st_iloadn rfl d_182_121) (fun _ _ _ _ _ => rfl)
theorem ki_182_120 : js_OkG 182 120 (o_il 1 121) := js_St.okG (st_iloadn rfl d_182_120) (fun _ _ _ _ _ => rfl)
theorem ki_182_119 : js_OkG 182 119 (o_al 0 120) := js_St.okG (st_aloadn rfl d_182_119) (fun _ _ _ _ _ => rfl)
theorem ki_182_116 : js_OkG 182 116 (o_go 129) := js_St.okG (st_goto (by decide) d_182_116) (fun _ _ _ _ _ => rfl)
theorem ki_182_115 : js_OkG 182 115 (o_ic (-1) 116) := js_St.okG (st_iconst rfl d_182_115) (fun _ _ _ _ _ => rfl)
theorem ki_182_112 : js_OkG 182 112 (o_ne 119 115) := js_St.okG (st_ifne (by decide) d_182_112) (fun _ _ _ _ _ => rfl)
theorem ki_182_143 : js_OkG 182 143 (o_il 1 144) := js_St.okG (st_iloadn rfl d_182_143) (fun _ _ _ _ _ => rfl)
theorem ki_182_141 : js_OkG 182 141 (o_il 8 143) := js_St.okG (st_iload d_182_141) (fun _ _ _ _ _ => rfl)
theorem ki_182_140 : js_OkG 182 140 (o_al 0 141) := js_St.okG (st_aloadn rfl d_182_140) (fun _ _ _ _ _ => rfl)
theorem ki_182_137 : js_OkG 182 137 (o_go 157) := js_St.okG (st_goto (by decide) d_182_137) (fun _ _ _ _ _ => rfl)
theorem ki_182_136 : js_OkG 182 136 (o_ic 1 137) := js_St.okG (st_iconst rfl d_182_136) (fun _ _ _ _ _ => rfl)
theorem ki_182_133 : js_OkG 182 133 (o_ne 140 136) := js_St.okG (st_ifne (by decide) d_182_133) (fun _ _ _ _ _ => rfl)
theorem ki_182_131 : js_OkG 182 131 (o_il 5 133) := js_St.okG (st_iload d_182_131) (fun _ _ _ _ _ => rfl)
theorem ki_182_129 : js_OkG 182 129 (o_is 8 131) := js_St.okG (st_istore (Nat.le_of_ble_eq_true rfl) d_182_129) (fun _ _ _ _ _ => rfl)
theorem ki_182_159 : js_OkG 182 159 (o_al 0 160) := js_St.okG (st_aloadn rfl d_182_159) (fun _ _ _ _ _ => rfl)
theorem ki_182_157 : js_OkG 182 157 (o_is 9 159) := js_St.okG (st_istore (Nat.le_of_ble_eq_true rfl) d_182_157) (fun _ _ _ _ _ => rfl)
theorem ki_182_156 : js_OkG 182 156 (o_b2 (fun x y => x - y) 157) := js_St.okG (st_isub d_182_156) (fun _ _ _ _ _ => rfl)
theorem ki_182_153 : js_OkG 182 153 (o_cI 174 4 0 156) := og_sIP rfl rfl kB_182_174 rfl kw_929 kw_930 d_182_153
theorem ki_182_152 : js_OkG 182 152 (o_il 2 153) := js_St.okG (st_iloadn rfl d_182_152) (fun _ _ _ _ _ => rfl)
theorem ki_182_151 : js_OkG 182 151 (o_il 1 152) := js_St.okG (st_iloadn rfl d_182_151) (fun _ _ _ _ _ => rfl)
theorem ki_182_149 : js_OkG 182 149 (o_il 7 151) := js_St.okG (st_iload d_182_149) (fun _ _ _ _ _ => rfl)
theorem ki_182_148 : js_OkG 182 148 (o_al 0 149) := js_St.okG (st_aloadn rfl d_182_148) (fun _ _ _ _ _ => rfl)
theorem ki_182_145 : js_OkG 182 145 (o_cI 174 4 0 148) := og_sIP rfl rfl kB_182_174 rfl kw_929 kw_930 d_182_145
theorem ki_182_144 : js_OkG 182 144 (o_il 2 145) := js_St.okG (st_iloadn rfl d_182_144) (fun _ _ _ _ _ => rfl)
theorem ki_182_175 : js_OkG 182 175 (o_cne 214 178) := js_St.okG (st_icne (by decide) d_182_175) (fun _ _ _ _ _ => rfl)
theorem ki_182_172 : js_OkG 182 172 (o_cI 173 4 0 175) := og_sIP rfl rfl kB_182_173 rfl kw_932 kw_933 d_182_172
theorem ki_182_171 : js_OkG 182 171 (o_il 2 172) := js_St.okG (st_iloadn rfl d_182_171) (fun _ _ _ _ _ => rfl)
theorem ki_182_170 : js_OkG 182 170 (o_il 1 171) := js_St.okG (st_iloadn rfl d_182_170) (fun _ _ _ _ _ => rfl)
theorem ki_182_168 : js_OkG 182 168 (o_il 6 170) := js_St.okG (st_iload d_182_168) (fun _ _ _ _ _ => rfl)
theorem ki_182_167 : js_OkG 182 167 (o_al 0 168) := js_St.okG (st_aloadn rfl d_182_167) (fun _ _ _ _ _ => rfl)
theorem ki_182_164 : js_OkG 182 164 (o_cI 152 4 0 167) := og_sIW rfl rfl kB_182_152 rfl kw_935 kw_936 d_182_164
theorem ki_182_163 : js_OkG 182 163 (o_il 2 164) := js_St.okG (st_iloadn rfl d_182_163) (fun _ _ _ _ _ => rfl)
theorem ki_182_162 : js_OkG 182 162 (o_il 1 163) := js_St.okG (st_iloadn rfl d_182_162) (fun _ _ _ _ _ => rfl)
theorem ki_182_160 : js_OkG 182 160 (o_il 6 162) := js_St.okG (st_iload d_182_160) (fun _ _ _ _ _ => rfl)
theorem ki_182_190 : js_OkG 182 190 (o_ne 200 193) := js_St.okG (st_ifne (by decide) d_182_190) (fun _ _ _ _ _ => rfl)
theorem ki_182_188 : js_OkG 182 188 (o_il 9 190) := js_St.okG (st_iload d_182_188) (fun _ _ _ _ _ => rfl)
theorem ki_182_185 : js_OkG 182 185 (o_lt 214 188) := js_St.okG (st_iflt (by decide) d_182_185) (fun _ _ _ _ _ => rfl)
theorem ki_182_183 : js_OkG 182 183 (o_il 9 185) := js_St.okG (st_iload d_182_183) (fun _ _ _ _ _ => rfl)
theorem ki_182_180 : js_OkG 182 180 (o_lt 214 183) := js_St.okG (st_iflt (by decide) d_182_180) (fun _ _ _ _ _ => rfl)
theorem ki_182_178 : js_OkG 182 178 (o_il 7 180) := js_St.okG (st_iload d_182_178) (fun _ _ _ _ _ => rfl)
theorem ki_182_206 : js_OkG 182 206 (o_cI 151 5 0 209) := og_sIW rfl rfl kB_182_151 rfl kw_910 kw_911 d_182_206
theorem ki_182_205 : js_OkG 182 205 (o_ic 4 206) := js_St.okG (st_iconst rfl d_182_205) (fun _ _ _ _ _ => rfl)
theorem ki_182_204 : js_OkG 182 204 (o_il 2 205) := js_St.okG (st_iloadn rfl d_182_204) (fun _ _ _ _ _ => rfl)
theorem ki_182_203 : js_OkG 182 203 (o_il 1 204) := js_St.okG (st_iloadn rfl d_182_203) (fun _ _ _ _ _ => rfl)
theorem ki_182_201 : js_OkG 182 201 (o_il 6 203) := js_St.okG (st_iload d_182_201) (fun _ _ _ _ _ => rfl)
theorem ki_182_200 : js_OkG 182 200 (o_al 0 201) := js_St.okG (st_aloadn rfl d_182_200) (fun _ _ _ _ _ => rfl)
theorem ki_182_197 : js_OkG 182 197 (o_cgt 214 200) := js_St.okG (st_icgt (by decide) d_182_197) (fun _ _ _ _ _ => rfl)
theorem ki_182_195 : js_OkG 182 195 (o_il 7 197) := js_St.okG (st_iload d_182_195) (fun _ _ _ _ _ => rfl)
theorem ki_182_193 : js_OkG 182 193 (o_il 8 195) := js_St.okG (st_iload d_182_193) (fun _ _ _ _ _ => rfl)
theorem ki_182_223 : js_OkG 182 223 (o_il 1 224) := js_St.okG (st_iloadn rfl d_182_223) (fun _ _ _ _ _ => rfl)
theorem ki_182_222 : js_OkG 182 222 (o_al 0 223) := js_St.okG (st_aloadn rfl d_182_222) (fun _ _ _ _ _ => rfl)
theorem ki_182_219 : js_OkG 182 219 (o_go 45) := js_St.okG (st_goto (by decide) d_182_219) (fun _ _ _ _ _ => rfl)
theorem ki_182_216 : js_OkG 182 216 (o_inc 5 1 219) := js_St.okG (st_iinc rfl (Nat.le_of_ble_eq_true rfl) d_182_216) (fun _ _ _ _ _ => rfl)
theorem ki_182_215 : js_OkG 182 215 (o_rZ) := og_rZ rfl d_182_215
theorem ki_182_214 : js_OkG 182 214 (o_ic 0 215) := js_St.okG (st_iconst rfl d_182_214) (fun _ _ _ _ _ => rfl)
theorem ki_182_211 : js_OkG 182 211 (o_ceq 216 214) := js_St.okG (st_iceq (by decide) d_182_211) (fun _ _ _ _ _ => rfl)
theorem ki_182_209 : js_OkG 182 209 (o_ic (-112) 211) := js_St.okG (st_bipush rfl d_182_209) (fun _ _ _ _ _ => rfl)
theorem ki_182_239 : js_OkG 182 239 (o_il 1 240) := js_St.okG (st_iloadn rfl d_182_239) (fun _ _ _ _ _ => rfl)
theorem ki_182_238 : js_OkG 182 238 (o_al 0 239) := js_St.okG (st_aloadn rfl d_182_238) (fun _ _ _ _ _ => rfl)
theorem ki_182_235 : js_OkG 182 235 (o_cI 153 3 0 238) := og_sIW rfl rfl kB_182_153 rfl kw_893 kw_894 d_182_235
theorem ki_182_234 : js_OkG 182 234 (o_il 2 235) := js_St.okG (st_iloadn rfl d_182_234) (fun _ _ _ _ _ => rfl)
theorem ki_182_233 : js_OkG 182 233 (o_il 1 234) := js_St.okG (st_iloadn rfl d_182_233) (fun _ _ _ _ _ => rfl)
theorem ki_182_232 : js_OkG 182 232 (o_al 0 233) := js_St.okG (st_aloadn rfl d_182_232) (fun _ _ _ _ _ => rfl)
theorem ki_182_229 : js_OkG 182 229 (o_cne 276 232) := js_St.okG (st_icne (by decide) d_182_229) (fun _ _ _ _ _ => rfl)
theorem ki_182_228 : js_OkG 182 228 (o_il 3 229) := js_St.okG (st_iloadn rfl d_182_228) (fun _ _ _ _ _ => rfl)
theorem ki_182_225 : js_OkG 182 225 (o_cI 150 3 0 228) := og_sIW rfl rfl kB_182_150 rfl kw_791 kw_792 d_182_225
theorem ki_182_224 : js_OkG 182 224 (o_il 2 225) := js_St.okG (st_iloadn rfl d_182_224) (fun _ _ _ _ _ => rfl)
theorem ki_182_255 : js_OkG 182 255 (o_ic (-13) 257) := js_St.okG (st_bipush rfl d_182_255) (fun _ _ _ _ _ => rfl)
theorem ki_182_252 : js_OkG 182 252 (o_cI 154 4 0 255) := og_sIW rfl rfl kB_182_154 rfl kw_900 kw_901 d_182_252
theorem ki_182_250 : js_OkG 182 250 (o_il 4 252) := js_St.okG (st_iload d_182_250) (fun _ _ _ _ _ => rfl)
theorem ki_182_249 : js_OkG 182 249 (o_il 2 250) := js_St.okG (st_iloadn rfl d_182_249) (fun _ _ _ _ _ => rfl)
theorem ki_182_248 : js_OkG 182 248 (o_il 1 249) := js_St.okG (st_iloadn rfl d_182_248) (fun _ _ _ _ _ => rfl)
theorem ki_182_247 : js_OkG 182 247 (o_al 0 248) := js_St.okG (st_aloadn rfl d_182_247) (fun _ _ _ _ _ => rfl)
theorem ki_182_244 : js_OkG 182 244 (o_cne 276 247) := js_St.okG (st_icne (by decide) d_182_244) (fun _ _ _ _ _ => rfl)
theorem ki_182_241 : js_OkG 182 241 (o_cI 175 3 0 244) := og_sIP rfl rfl kB_182_175 rfl kw_943 kw_944 d_182_241
theorem ki_182_240 : js_OkG 182 240 (o_il 2 241) := js_St.okG (st_iloadn rfl d_182_240) (fun _ _ _ _ _ => rfl)
theorem ki_182_269 : js_OkG 182 269 (o_cne 276 272) := js_St.okG (st_icne (by decide) d_182_269) (fun _ _ _ _ _ => rfl)
theorem ki_182_267 : js_OkG 182 267 (o_ic (-13) 269) := js_St.okG (st_bipush rfl d_182_267) (fun _ _ _ _ _ => rfl)
theorem ki_182_264 : js_OkG 182 264 (o_cI 154 4 0 267) := og_sIW rfl rfl kB_182_154 rfl kw_900 kw_901 d_182_264
theorem ki_182_263 : js_OkG 182 263 (o_ic (-1) 264) := js_St.okG (st_iconst rfl d_182_263) (fun _ _ _ _ _ => rfl)
theorem ki_182_262 : js_OkG 182 262 (o_il 2 263) := js_St.okG (st_iloadn rfl d_182_262) (fun _ _ _ _ _ => rfl)
theorem ki_182_261 : js_OkG 182 261 (o_il 1 262) := js_St.okG (st_iloadn rfl d_182_261) (fun _ _ _ _ _ => rfl)
theorem ki_182_260 : js_OkG 182 260 (o_al 0 261) := js_St.okG (st_aloadn rfl d_182_260) (fun _ _ _ _ _ => rfl)
theorem ki_182_257 : js_OkG 182 257 (o_cne 276 260) := js_St.okG (st_icne (by decide) d_182_257) (fun _ _ _ _ _ => rfl)
theorem ki_182_277 : js_OkG 182 277 (o_rZ) := og_rZ rfl d_182_277
theorem ki_182_276 : js_OkG 182 276 (o_ic 0 277) := js_St.okG (st_iconst rfl d_182_276) (fun _ _ _ _ _ => rfl)
theorem ki_182_273 : js_OkG 182 273 (o_go 277) := js_St.okG (st_goto (by decide) d_182_273) (fun _ _ _ _ _ => rfl)
theorem ki_182_272 : js_OkG 182 272 (o_ic 1 273) := js_St.okG (st_iconst rfl d_182_272) (fun _ _ _ _ _ => rfl)
set_option maxRecDepth 20000 in
theorem mk_182 : js_mokG 182 := jk_tab (fun _ => js_St.okG st_bad (fun _ _ _ _ _ => rfl)) (show jk_all (js_OkG 182) 0 tb_182 from ⟨⟨ki_182_0, ⟨ki_182_1, ⟨ki_182_2, ⟨ki_182_3, ⟨kbadG, ⟨ki_182_5, ⟨kbadG, ⟨ki_182_7, ⟨ki_182_8, ⟨kbadG, ⟨kbadG, ⟨ki_182_11, ⟨ki_182_12, ⟨ki_182_13, ⟨ki_182_14, ⟨ki_182_15, trivial⟩⟩⟩⟩⟩⟩⟩⟩⟩⟩⟩⟩⟩⟩⟩⟩, ⟨⟨kbadG, ⟨ki_182_17, ⟨kbadG, ⟨kbadG, ⟨ki_182_20, ⟨kbadG, ⟨kbadG, ⟨ki_182_23, ⟨ki_182_24, ⟨kbadG, ⟨kbadG, ⟨ki_182_27, ⟨ki_182_28, ⟨ki_182_29, ⟨ki_182_30, ⟨kbadG, trivial⟩⟩⟩⟩⟩⟩⟩⟩⟩⟩⟩⟩⟩⟩⟩⟩, ⟨⟨kbadG, ⟨ki_182_33, ⟨kbadG, ⟨kbadG, ⟨ki_182_36, ⟨ki_182_37, ⟨kbadG, ⟨kbadG, ⟨ki_182_40, ⟨kbadG, ⟨ki_182_42, ⟨ki_182_43, ⟨kbadG, ⟨ki_182_45, ⟨kbadG, ⟨ki_182_47, trivial⟩⟩⟩⟩⟩⟩⟩⟩⟩⟩⟩⟩⟩⟩⟩⟩, ⟨⟨kbadG, ⟨ki_182_49, ⟨kbadG, ⟨kbadG, ⟨ki_182_52, ⟨ki_182_53, ⟨kbadG, ⟨ki_182_55, ⟨kbadG, ⟨kbadG, ⟨ki_182_58, ⟨kbadG, ⟨ki_182_60, ⟨ki_182_61, ⟨kbadG, ⟨ki_182_63, trivial⟩⟩⟩⟩⟩⟩⟩⟩⟩⟩⟩⟩⟩⟩⟩⟩, ⟨⟨kbadG, ⟨ki_182_65, ⟨ki_182_66, ⟨kbadG, ⟨kbadG, ⟨ki_182_69, ⟨ki_182_70, ⟨kbadG, ⟨ki_182_72, ⟨ki_182_73, ⟨ki_182_74, ⟨kbadG, ⟨ki_182_76, ⟨kbadG, ⟨kbadG, ⟨ki_182_79, trivial⟩⟩⟩⟩⟩⟩⟩⟩⟩⟩⟩⟩⟩⟩⟩⟩, ⟨⟨ki_182_80, ⟨kbadG, ⟨ki_182_82, ⟨ki_182_83, ⟨ki_182_84, ⟨kbadG, ⟨ki_182_86, ⟨kbadG, ⟨kbadG, ⟨ki_182_89, ⟨kbadG, ⟨kbadG, ⟨ki_182_92, ⟨ki_182_93, ⟨ki_182_94, ⟨kbadG, trivial⟩⟩⟩⟩⟩⟩⟩⟩⟩⟩⟩⟩⟩⟩⟩⟩, ⟨⟨kbadG, ⟨ki_182_97, ⟨kbadG, ⟨kbadG, ⟨ki_182_100, ⟨ki_182_101, ⟨ki_182_102, ⟨ki_182_103, ⟨kbadG, ⟨ki_182_105, ⟨kbadG, ⟨kbadG, ⟨ki_182_108, ⟨kbadG, ⟨ki_182_110, ⟨kbadG, trivial⟩⟩⟩⟩⟩⟩⟩⟩⟩⟩⟩⟩⟩⟩⟩⟩, ⟨⟨ki_182_112, ⟨kbadG, ⟨kbadG, ⟨ki_182_115, ⟨ki_182_116, ⟨kbadG, ⟨kbadG, ⟨ki_182_119, ⟨ki_182_120, ⟨ki_182_121, ⟨ki_182_122, ⟨kbadG, ⟨ki_182_124, ⟨ki_182_125, ⟨ki_182_126, ⟨kbadG, trivial⟩⟩⟩⟩⟩⟩⟩⟩⟩⟩⟩⟩⟩⟩⟩⟩, ⟨⟨kbadG, ⟨ki_182_129, ⟨kbadG, ⟨ki_182_131, ⟨kbadG, ⟨ki_182_133, ⟨kbadG, ⟨kbadG, ⟨ki_182_136, ⟨ki_182_137, ⟨kbadG, ⟨kbadG, ⟨ki_182_140, ⟨ki_182_141, ⟨kbadG, ⟨ki_182_143, trivial⟩⟩⟩⟩⟩⟩⟩⟩⟩⟩⟩⟩⟩⟩⟩⟩, ⟨⟨ki_182_144, ⟨ki_182_145, ⟨kbadG, ⟨kbadG, ⟨ki_182_148, ⟨ki_182_149, ⟨kbadG, ⟨ki_182_151, ⟨ki_182_152, ⟨ki_182_153, ⟨kbadG, ⟨kbadG, ⟨ki_182_156, ⟨ki_182_157, ⟨kbadG, ⟨ki_182_159, trivial⟩⟩⟩⟩⟩⟩⟩⟩⟩⟩⟩⟩⟩⟩⟩⟩, ⟨⟨ki_182_160, ⟨kbadG, ⟨ki_182_162, ⟨ki_182_163, ⟨ki_182_164, ⟨kbadG, ⟨kbadG, ⟨ki_182_167, ⟨ki_182_168, ⟨kbadG, ⟨ki_182_170, ⟨ki_182_171, ⟨ki_182_172, ⟨kbadG, ⟨kbadG, ⟨ki_182_175, trivial⟩⟩⟩⟩⟩⟩⟩⟩⟩⟩⟩⟩⟩⟩⟩⟩, ⟨⟨kbadG, ⟨kbadG, ⟨ki_182_178, ⟨kbadG, ⟨ki_182_180, ⟨kbadG, ⟨kbadG, ⟨ki_182_183, ⟨kbadG, ⟨ki_182_185, ⟨kbadG, ⟨kbadG, ⟨ki_182_188, ⟨kbadG, ⟨ki_182_190, ⟨kbadG, trivial⟩⟩⟩⟩⟩⟩⟩⟩⟩⟩⟩⟩⟩⟩⟩⟩, ⟨⟨kbadG, ⟨ki_182_193, ⟨kbadG, ⟨ki_182_195, ⟨kbadG, ⟨ki_182_197, ⟨kbadG, ⟨kbadG, ⟨ki_182_200, ⟨ki_182_201, ⟨kbadG, ⟨ki_182_203, ⟨ki_182_204, ⟨ki_182_205, ⟨ki_182_206, ⟨kbadG, trivial⟩⟩⟩⟩⟩⟩⟩⟩⟩⟩⟩⟩⟩⟩⟩⟩, ⟨⟨kbadG, ⟨ki_182_209, ⟨kbadG, ⟨ki_182_211, ⟨kbadG, ⟨kbadG, ⟨ki_182_214, ⟨ki_182_215, ⟨ki_182_216, ⟨kbadG, ⟨kbadG, ⟨ki_182_219, ⟨kbadG, ⟨kbadG, ⟨ki_182_222, ⟨ki_182_223, trivial⟩⟩⟩⟩⟩⟩⟩⟩⟩⟩⟩⟩⟩⟩⟩⟩, ⟨⟨ki_182_224, ⟨ki_182_225, ⟨kbadG, ⟨kbadG, ⟨ki_182_228, ⟨ki_182_229, ⟨kbadG, ⟨kbadG, ⟨ki_182_232, ⟨ki_182_233, ⟨ki_182_234, ⟨ki_182_235, ⟨kbadG, ⟨kbadG, ⟨ki_182_238, ⟨ki_182_239, trivial⟩⟩⟩⟩⟩⟩⟩⟩⟩⟩⟩⟩⟩⟩⟩⟩, ⟨⟨ki_182_240, ⟨ki_182_241, ⟨kbadG, ⟨kbadG, ⟨ki_182_244, ⟨kbadG, ⟨kbadG, ⟨ki_182_247, ⟨ki_182_248, ⟨ki_182_249, ⟨ki_182_250, ⟨kbadG, ⟨ki_182_252, ⟨kbadG, ⟨kbadG, ⟨ki_182_255, trivial⟩⟩⟩⟩⟩⟩⟩⟩⟩⟩⟩⟩⟩⟩⟩⟩, ⟨⟨kbadG, ⟨ki_182_257, ⟨kbadG, ⟨kbadG, ⟨ki_182_260, ⟨ki_182_261, ⟨ki_182_262, ⟨ki_182_263, ⟨ki_182_264, ⟨kbadG, ⟨kbadG, ⟨ki_182_267, ⟨kbadG, ⟨ki_182_269, ⟨kbadG, ⟨kbadG, trivial⟩⟩⟩⟩⟩⟩⟩⟩⟩⟩⟩⟩⟩⟩⟩⟩, ⟨⟨ki_182_272, ⟨ki_182_273, ⟨kbadG, ⟨kbadG, ⟨ki_182_276, ⟨ki_182_277, trivial⟩⟩⟩⟩⟩⟩, trivial⟩⟩⟩⟩⟩⟩⟩⟩⟩⟩⟩⟩⟩⟩⟩⟩⟩⟩)
end JS
