section JS
set_option maxRecDepth 20000 in
theorem d_133_0 : decode (js_b 133) 0 = .ok (.aload_n 0, 1) := by decide +kernel
set_option maxRecDepth 20000 in
theorem d_133_1 : decode (js_b 133) 1 = .ok (.iload_n 1, 1) := by decide +kernel
set_option maxRecDepth 20000 in
theorem d_133_2 : decode (js_b 133) 2 = .ok (.iload_n 2, 1) := by decide +kernel
set_option maxRecDepth 20000 in
theorem d_133_3 : decode (js_b 133) 3 = .ok (.iload_n 3, 1) := by decide +kernel
set_option maxRecDepth 20000 in
theorem d_133_4 : decode (js_b 133) 4 = .ok (.iload 4, 2) := by decide +kernel
set_option maxRecDepth 20000 in
theorem d_133_6 : decode (js_b 133) 6 = .ok (.iload 5, 2) := by decide +kernel
set_option maxRecDepth 20000 in
theorem d_133_8 : decode (js_b 133) 8 = .ok (.invokevirtual 8, 3) := by decide +kernel
set_option maxRecDepth 20000 in
theorem d_133_11 : decode (js_b 133) 11 = .ok (.ireturn, 1) := by decide +kernel
set_option maxRecDepth 20000 in
theorem d_133_12 : decode (js_b 133) 12 = .ok (.astore 6, 2) := by decide +kernel
set_option maxRecDepth 20000 in
theorem d_133_14 : decode (js_b 133) 14 = .ok (.iconst (-1), 1) := by decide +kernel
set_option maxRecDepth 20000 in
theorem d_133_15 : decode (js_b 133) 15 = .ok (.ireturn, 1) := by decide +kernel
set_option maxRecDepth 20000 in
theorem d_133_16 : decode (js_b 133) 16 = .ok (.astore 6, 2) := by decide +kernel
set_option maxRecDepth 20000 in
theorem d_133_18 : decode (js_b 133) 18 = .ok (.bipush (-2), 2) := by decide +kernel
set_option maxRecDepth 20000 in
theorem d_133_20 : decode (js_b 133) 20 = .ok (.ireturn, 1) := by decide +kernel
theorem ki_133_15 : js_OkG 133 15 (o_rI) := og_rI rfl d_133_15
theorem ki_133_14 : js_OkG 133 14 (o_ic (-1) 15) := js_St.okG (st_iconst rfl d_133_14) (fun _ _ _ _ _ => rfl)
theorem ki_133_12 : js_OkG 133 12 (o_aj 6 14) := og_aj2 rfl rfl (Nat.le_of_ble_eq_true rfl) d_133_12
theorem ki_133_11 : js_OkG 133 11 (o_rI) := og_rI rfl d_133_11
theorem ki_133_8 : js_OkG 133 8 (o_hI 60 6 8 [("java/lang/IllegalArgumentException", 12), ("java/lang/IllegalStateException", 16)] 11) := og_hI (site_V kk_133_60 (by decide) kw_275 kw_276 kw_277 (fun t ht => by cases ht; exact Or.inl ⟨by decide, _, rfl, rfl⟩) d_133_8) rfl rfl ⟨⟨by decide +kernel, by decide, rfl, rfl⟩, kw_273, kn_409, by decide +kernel, ⟨⟨by decide +kernel, by decide, rfl, rfl⟩, kw_274, kn_425, by decide +kernel, trivial⟩⟩
theorem ki_133_6 : js_OkG 133 6 (o_il 5 8) := js_St.okG (st_iload d_133_6) (fun _ _ _ _ _ => rfl)
theorem ki_133_4 : js_OkG 133 4 (o_il 4 6) := js_St.okG (st_iload d_133_4) (fun _ _ _ _ _ => rfl)
theorem ki_133_3 : js_OkG 133 3 (o_il 3 4) := js_St.okG (st_iloadn rfl d_133_3) (fun _ _ _ _ _ => rfl)
theorem ki_133_2 : js_OkG 133 2 (o_il 2 3) := js_St.okG (st_iloadn rfl d_133_2) (fun _ _ _ _ _ => rfl)
theorem ki_133_1 : js_OkG 133 1 (o_il 1 2) := js_St.okG (st_iloadn rfl d_133_1) (fun _ _ _ _ _ => rfl)
theorem ki_133_0 : js_OkG 133 0 (o_al 0 1) := js_St.okG (st_aloadn rfl d_133_0) (fun _ _ _ _ _ => rfl)
theorem ki_133_20 : js_OkG 133 20 (o_rI) := og_rI rfl d_133_20
theorem ki_133_18 : js_OkG 133 18 (o_ic (-2) 20) := js_St.okG (st_bipush rfl d_133_18) (fun _ _ _ _ _ => rfl)
theorem ki_133_16 : js_OkG 133 16 (o_aj 6 18) := og_aj2 rfl rfl (Nat.le_of_ble_eq_true rfl) d_133_16
set_option maxRecDepth 20000 in
theorem mk_133 : js_mokG 133 := jk_tab (fun _ => js_St.okG st_bad (fun _ _ _ _ _ => rfl)) (show jk_all (js_OkG 133) 0 tb_133 from ⟨⟨ki_133_0, ⟨ki_133_1, ⟨ki_133_2, ⟨ki_133_3, ⟨ki_133_4, ⟨kbadG, ⟨ki_133_6, ⟨kbadG, ⟨ki_133_8, ⟨kbadG, ⟨kbadG, ⟨ki_133_11, ⟨ki_133_12, ⟨kbadG, ⟨ki_133_14, ⟨ki_133_15, trivial⟩⟩⟩⟩⟩⟩⟩⟩⟩⟩⟩⟩⟩⟩⟩⟩, ⟨⟨ki_133_16, ⟨kbadG, ⟨ki_133_18, ⟨kbadG, ⟨ki_133_20, trivial⟩⟩⟩⟩⟩, trivial⟩⟩)
set_option maxRecDepth 20000 in
theorem d_134_0 : decode (js_b 134) 0 = .ok (.aload_n 0, 1) := by decide +kernel
set_option maxRecDepth 20000 in
theorem d_134_1 : decode (js_b 134) 1 = .ok (.iload_n 1, 1) := by decide +kernel
set_option maxRecDepth 20000 in
theorem d_134_2 : decode (js_b 134) 2 = .ok (.invokevirtual 18, 3) := by decide +kernel
set_option maxRecDepth 20000 in
theorem d_134_5 : decode (js_b 134) 5 = .ok (.ireturn, 1) := by decide +kernel
set_option maxRecDepth 20000 in
theorem d_134_6 : decode (js_b 134) 6 = .ok (.astore_n 2, 1) := by decide +kernel
set_option maxRecDepth 20000 in
theorem d_134_7 : decode (js_b 134) 7 = .ok (.iconst (-1), 1) := by decide +kernel
set_option maxRecDepth 20000 in
theorem d_134_8 : decode (js_b 134) 8 = .ok (.ireturn, 1) := by decide +kernel
set_option maxRecDepth 20000 in
theorem d_134_9 : decode (js_b 134) 9 = .ok (.astore_n 2, 1) := by decide +kernel
set_option maxRecDepth 20000 in
theorem d_134_10 : decode (js_b 134) 10 = .ok (.bipush (-2), 2) := by decide +kernel
set_option maxRecDepth 20000 in
theorem d_134_12 : decode (js_b 134) 12 = .ok (.ireturn, 1) := by decide +kernel
theorem ki_134_12 : js_OkG 134 12 (o_rI) := og_rI rfl d_134_12
theorem ki_134_10 : js_OkG 134 10 (o_ic (-2) 12) := js_St.okG (st_bipush rfl d_134_10) (fun _ _ _ _ _ => rfl)
theorem ki_134_9 : js_OkG 134 9 (o_aj 2 10) := og_aj1 rfl rfl rfl (Nat.le_of_ble_eq_true rfl) d_134_9
theorem ki_134_8 : js_OkG 134 8 (o_rI) := og_rI rfl d_134_8
theorem ki_134_7 : js_OkG 134 7 (o_ic (-1) 8) := js_St.okG (st_iconst rfl d_134_7) (fun _ _ _ _ _ => rfl)
theorem ki_134_6 : js_OkG 134 6 (o_aj 2 7) := og_aj1 rfl rfl rfl (Nat.le_of_ble_eq_true rfl) d_134_6
theorem ki_134_5 : js_OkG 134 5 (o_rI) := og_rI rfl d_134_5
theorem ki_134_2 : js_OkG 134 2 (o_hI 61 2 8 [("java/util/NoSuchElementException", 6), ("java/lang/IllegalStateException", 9)] 5) := og_hI (site_V kk_134_61 (by decide) kw_1323 kw_1324 kw_1325 (fun t ht => by cases ht; exact Or.inl ⟨by decide, _, rfl, rfl⟩) d_134_2) rfl rfl ⟨⟨by decide +kernel, by decide, rfl, rfl⟩, kw_449, kn_321, by decide +kernel, ⟨⟨by decide +kernel, by decide, rfl, rfl⟩, kw_274, kn_425, by decide +kernel, trivial⟩⟩
theorem ki_134_1 : js_OkG 134 1 (o_il 1 2) := js_St.okG (st_iloadn rfl d_134_1) (fun _ _ _ _ _ => rfl)
theorem ki_134_0 : js_OkG 134 0 (o_al 0 1) := js_St.okG (st_aloadn rfl d_134_0) (fun _ _ _ _ _ => rfl)
set_option maxRecDepth 20000 in
theorem mk_134 : js_mokG 134 := jk_tab (fun _ => js_St.okG st_bad (fun _ _ _ _ _ => rfl)) (show jk_all (js_OkG 134) 0 tb_134 from ⟨⟨ki_134_0, ⟨ki_134_1, ⟨ki_134_2, ⟨kbadG, ⟨kbadG, ⟨ki_134_5, ⟨ki_134_6, ⟨ki_134_7, ⟨ki_134_8, ⟨ki_134_9, ⟨ki_134_10, ⟨kbadG, ⟨ki_134_12, trivial⟩⟩⟩⟩⟩⟩⟩⟩⟩⟩⟩⟩⟩, trivial⟩)
set_option maxRecDepth 20000 in
theorem d_135_0 : decode (js_b 135) 0 = .ok (.aload_n 0, 1) := by decide +kernel
set_option maxRecDepth 20000 in
theorem d_135_1 : decode (js_b 135) 1 = .ok (.iload_n 1, 1) := by decide +kernel
set_option maxRecDepth 20000 in
theorem d_135_2 : decode (js_b 135) 2 = .ok (.invokevirtual 24, 3) := by decide +kernel
set_option maxRecDepth 20000 in
theorem d_135_5 : decode (js_b 135) 5 = .ok (.ireturn, 1) := by decide +kernel
set_option maxRecDepth 20000 in
theorem d_135_6 : decode (js_b 135) 6 = .ok (.astore_n 2, 1) := by decide +kernel
set_option maxRecDepth 20000 in
theorem d_135_7 : decode (js_b 135) 7 = .ok (.bipush (-11), 2) := by decide +kernel
set_option maxRecDepth 20000 in
theorem d_135_9 : decode (js_b 135) 9 = .ok (.ireturn, 1) := by decide +kernel
theorem ki_135_9 : js_OkG 135 9 (o_rI) := og_rI rfl d_135_9
theorem ki_135_7 : js_OkG 135 7 (o_ic (-11) 9) := js_St.okG (st_bipush rfl d_135_7) (fun _ _ _ _ _ => rfl)
theorem ki_135_6 : js_OkG 135 6 (o_aj 2 7) := og_aj1 rfl rfl rfl (Nat.le_of_ble_eq_true rfl) d_135_6
theorem ki_135_5 : js_OkG 135 5 (o_rI) := og_rI rfl d_135_5
theorem ki_135_2 : js_OkG 135 2 (o_hI 64 2 8 [("java/lang/IndexOutOfBoundsException", 6)] 5) := og_hI (site_V kk_135_64 (by decide) kw_670 kw_671 kw_672 (fun t ht => by cases ht; exact Or.inl ⟨by decide, _, rfl, rfl⟩) d_135_2) rfl rfl ⟨⟨by decide +kernel, by decide, rfl, rfl⟩, kw_469, kn_393, by decide +kernel, trivial⟩
theorem ki_135_1 : js_OkG 135 1 (o_il 1 2) := js_St.okG (st_iloadn rfl d_135_1) (fun _ _ _ _ _ => rfl)
theorem ki_135_0 : js_OkG 135 0 (o_al 0 1) := js_St.okG (st_aloadn rfl d_135_0) (fun _ _ _ _ _ => rfl)
set_option maxRecDepth 20000 in
theorem mk_135 : js_mokG 135 := jk_tab (fun _ => js_St.okG st_bad (fun _ _ _ _ _ => rfl)) (show jk_all (js_OkG 135) 0 tb_135 from ⟨⟨ki_135_0, ⟨ki_135_1, ⟨ki_135_2, ⟨kbadG, ⟨kbadG, ⟨ki_135_5, ⟨ki_135_6, ⟨ki_135_7, ⟨kbadG, ⟨ki_135_9, trivial⟩⟩⟩⟩⟩⟩⟩⟩⟩⟩, trivial⟩)
set_option maxRecDepth 20000 in
theorem d_136_0 : decode (js_b 136) 0 = .ok (.aload_n 0, 1) := by decide +kernel
set_option maxRecDepth 20000 in
theorem d_136_1 : decode (js_b 136) 1 = .ok (.iload_n 1, 1) := by decide +kernel
set_option maxRecDepth 20000 in
theorem d_136_2 : decode (js_b 136) 2 = .ok (.invokevirtual 29, 3) := by decide +kernel
set_option maxRecDepth 20000 in
theorem d_136_5 : decode (js_b 136) 5 = .ok (.ireturn, 1) := by decide +kernel
set_option maxRecDepth 20000 in
theorem d_136_6 : decode (js_b 136) 6 = .ok (.astore_n 2, 1) := by decide +kernel
set_option maxRecDepth 20000 in
theorem d_136_7 : decode (js_b 136) 7 = .ok (.bipush (-13), 2) := by decide +kernel
set_option maxRecDepth 20000 in
theorem d_136_9 : decode (js_b 136) 9 = .ok (.ireturn, 1) := by decide +kernel
theorem ki_136_9 : js_OkG 136 9 (o_rI) := og_rI rfl d_136_9
theorem ki_136_7 : js_OkG 136 7 (o_ic (-13) 9) := js_St.okG (st_bipush rfl d_136_7) (fun _ _ _ _ _ => rfl)
theorem ki_136_6 : js_OkG 136 6 (o_aj 2 7) := og_aj1 rfl rfl rfl (Nat.le_of_ble_eq_true rfl) d_136_6
theorem ki_136_5 : js_OkG 136 5 (o_rI) := og_rI rfl d_136_5
theorem ki_136_2 : js_OkG 136 2 (o_hI 66 2 8 [("java/util/NoSuchElementException", 6)] 5) := og_hI (site_V kk_136_66 (by decide) kw_632 kw_633 kw_634 (fun t ht => by cases ht; exact Or.inl ⟨by decide, _, rfl, rfl⟩) d_136_2) rfl rfl ⟨⟨by decide +kernel, by decide, rfl, rfl⟩, kw_449, kn_321, by decide +kernel, trivial⟩
theorem ki_136_1 : js_OkG 136 1 (o_il 1 2) := js_St.okG (st_iloadn rfl d_136_1) (fun _ _ _ _ _ => rfl)
theorem ki_136_0 : js_OkG 136 0 (o_al 0 1) := js_St.okG (st_aloadn rfl d_136_0) (fun _ _ _ _ _ => rfl)
set_option maxRecDepth 20000 in
theorem mk_136 : js_mokG 136 := jk_tab (fun _ => js_St.okG st_bad (fun _ _ _ _ _ => rfl)) (show jk_all (js_OkG 136) 0 tb_136 from ⟨⟨ki_136_0, ⟨ki_136_1, ⟨ki_136_2, ⟨kbadG, ⟨kbadG, ⟨ki_136_5, ⟨ki_136_6, ⟨ki_136_7, ⟨kbadG, ⟨ki_136_9, trivial⟩⟩⟩⟩⟩⟩⟩⟩⟩⟩, trivial⟩)
set_option maxRecDepth 20000 in
theorem d_137_0 : decode (js_b 137) 0 = .ok (.aload_n 0, 1) := by decide +kernel
set_option maxRecDepth 20000 in
theorem d_137_1 : decode (js_b 137) 1 = .ok (.iload_n 1, 1) := by decide +kernel
set_option maxRecDepth 20000 in
theorem d_137_2 : decode (js_b 137) 2 = .ok (.invokevirtual 33, 3) := by decide +kernel
set_option maxRecDepth 20000 in
theorem d_137_5 : decode (js_b 137) 5 = .ok (.ireturn, 1) := by decide +kernel
set_option maxRecDepth 20000 in
theorem d_137_6 : decode (js_b 137) 6 = .ok (.astore_n 2, 1) := by decide +kernel
set_option maxRecDepth 20000 in
theorem d_137_7 : decode (js_b 137) 7 = .ok (.bipush (-13), 2) := by decide +kernel
set_option maxRecDepth 20000 in
theorem d_137_9 : decode (js_b 137) 9 = .ok (.ireturn, 1) := by decide +kernel
theorem ki_137_9 : js_OkG 137 9 (o_rI) := og_rI rfl d_137_9
theorem ki_137_7 : js_OkG 137 7 (o_ic (-13) 9) := js_St.okG (st_bipush rfl d_137_7) (fun _ _ _ _ _ => rfl)
theorem ki_137_6 : js_OkG 137 6 (o_aj 2 7) := og_aj1 rfl rfl rfl (Nat.le_of_ble_eq_true rfl) d_137_6
theorem ki_137_5 : js_OkG 137 5 (o_rI) := og_rI rfl d_137_5
theorem ki_137_2 : js_OkG 137 2 (o_hI 67 2 8 [("java/util/NoSuchElementException", 6)] 5) := og_hI (site_V kk_137_67 (by decide) kw_643 kw_644 kw_645 (fun t ht => by cases ht; exact Or.inl ⟨by decide, _, rfl, rfl⟩) d_137_2) rfl rfl ⟨⟨by decide +kernel, by decide, rfl, rfl⟩, kw_449, kn_321, by decide +kernel, trivial⟩
theorem ki_137_1 : js_OkG 137 1 (o_il 1 2) := js_St.okG (st_iloadn rfl d_137_1) (fun _ _ _ _ _ => rfl)
theorem ki_137_0 : js_OkG 137 0 (o_al 0 1) := js_St.okG (st_aloadn rfl d_137_0) (fun _ _ _ _ _ => rfl)
set_option maxRecDepth 20000 in
theorem mk_137 : js_mokG 137 := jk_tab (fun _ => js_St.okG st_bad (fun _ _ _ _ _ => rfl)) (show jk_all (js_OkG 137) 0 tb_137 from ⟨⟨ki_137_0, ⟨ki_137_1, ⟨ki_137_2, ⟨kbadG, ⟨kbadG, ⟨ki_137_5, ⟨ki_137_6, ⟨ki_137_7, ⟨kbadG, ⟨ki_137_9, trivial⟩⟩⟩⟩⟩⟩⟩⟩⟩⟩, trivial⟩)
set_option maxRecDepth 20000 in
theorem d_138_0 : decode (js_b 138) 0 = .ok (.aload_n 0, 1) := by decide +kernel
set_option maxRecDepth 20000 in
theorem d_138_1 : decode (js_b 138) 1 = .ok (.iload_n 1, 1) := by decide +kernel
set_option maxRecDepth 20000 in
theorem d_138_2 : decode (js_b 138) 2 = .ok (.iload_n 2, 1) := by decide +kernel
set_option maxRecDepth 20000 in
theorem d_138_3 : decode (js_b 138) 3 = .ok (.invokevirtual 36, 3) := by decide +kernel
set_option maxRecDepth 20000 in
theorem d_138_6 : decode (js_b 138) 6 = .ok (.ireturn, 1) := by decide +kernel
set_option maxRecDepth 20000 in
theorem d_138_7 : decode (js_b 138) 7 = .ok (.astore_n 3, 1) := by decide +kernel
set_option maxRecDepth 20000 in
theorem d_138_8 : decode (js_b 138) 8 = .ok (.bipush (-13), 2) := by decide +kernel
set_option maxRecDepth 20000 in
theorem d_138_10 : decode (js_b 138) 10 = .ok (.ireturn, 1) := by decide +kernel
set_option maxRecDepth 20000 in
theorem d_138_11 : decode (js_b 138) 11 = .ok (.astore_n 3, 1) := by decide +kernel
set_option maxRecDepth 20000 in
theorem d_138_12 : decode (js_b 138) 12 = .ok (.bipush (-12), 2) := by decide +kernel
set_option maxRecDepth 20000 in
theorem d_138_14 : decode (js_b 138) 14 = .ok (.ireturn, 1) := by decide +kernel
theorem ki_138_14 : js_OkG 138 14 (o_rI) := og_rI rfl d_138_14
theorem ki_138_12 : js_OkG 138 12 (o_ic (-12) 14) := js_St.okG (st_bipush rfl d_138_12) (fun _ _ _ _ _ => rfl)
theorem ki_138_11 : js_OkG 138 11 (o_aj 3 12) := og_aj1 rfl rfl rfl (Nat.le_of_ble_eq_true rfl) d_138_11
theorem ki_138_10 : js_OkG 138 10 (o_rI) := og_rI rfl d_138_10
theorem ki_138_8 : js_OkG 138 8 (o_ic (-13) 10) := js_St.okG (st_bipush rfl d_138_8) (fun _ _ _ _ _ => rfl)
theorem ki_138_7 : js_OkG 138 7 (o_aj 3 8) := og_aj1 rfl rfl rfl (Nat.le_of_ble_eq_true rfl) d_138_7
theorem ki_138_6 : js_OkG 138 6 (o_rI) := og_rI rfl d_138_6
theorem ki_138_3 : js_OkG 138 3 (o_hI 68 3 8 [("java/util/NoSuchElementException", 7), ("java/lang/IllegalArgumentException", 11)] 6) := og_hI (site_V kk_138_68 (by decide) kw_658 kw_659 kw_660 (fun t ht => by cases ht; exact Or.inl ⟨by decide, _, rfl, rfl⟩) d_138_3) rfl rfl ⟨⟨by decide +kernel, by decide, rfl, rfl⟩, kw_449, kn_321, by decide +kernel, ⟨⟨by decide +kernel, by decide, rfl, rfl⟩, kw_273, kn_409, by decide +kernel, trivial⟩⟩
theorem ki_138_2 : js_OkG 138 2 (o_il 2 3) := js_St.okG (st_iloadn rfl d_138_2) (fun _ _ _ _ _ => rfl)
theorem ki_138_1 : js_OkG 138 1 (o_il 1 2) := js_St.okG (st_iloadn rfl d_138_1) (fun _ _ _ _ _ => rfl)
theorem ki_138_0 : js_OkG 138 0 (o_al 0 1) := js_St.okG (st_aloadn rfl d_138_0) (fun _ _ _ _ _ => rfl)
set_option maxRecDepth 20000 in
theorem mk_138 : js_mokG 138 := jk_tab (fun _ => js_St.okG st_bad (fun _ _ _ _ _ => rfl)) (show jk_all (js_OkG 138) 0 tb_138 from ⟨⟨ki_138_0, ⟨ki_138_1, ⟨ki_138_2, ⟨ki_138_3, ⟨kbadG, ⟨kbadG, ⟨ki_138_6, ⟨ki_138_7, ⟨ki_138_8, ⟨kbadG, ⟨ki_138_10, ⟨ki_138_11, ⟨ki_138_12, ⟨kbadG, ⟨ki_138_14, trivial⟩⟩⟩⟩⟩⟩⟩⟩⟩⟩⟩⟩⟩⟩⟩, trivial⟩)
set_option maxRecDepth 20000 in
theorem d_139_0 : decode (js_b 139) 0 = .ok (.aload_n 0, 1) := by decide +kernel
set_option maxRecDepth 20000 in
theorem d_139_1 : decode (js_b 139) 1 = .ok (.iload_n 1, 1) := by decide +kernel
set_option maxRecDepth 20000 in
theorem d_139_2 : decode (js_b 139) 2 = .ok (.invokevirtual 40, 3) := by decide +kernel
set_option maxRecDepth 20000 in
theorem d_139_5 : decode (js_b 139) 5 = .ok (.ifCond .eq 7, 3) := by decide +kernel
set_option maxRecDepth 20000 in
theorem d_139_8 : decode (js_b 139) 8 = .ok (.iconst 1, 1) := by decide +kernel
set_option maxRecDepth 20000 in
theorem d_139_9 : decode (js_b 139) 9 = .ok (.goto 4, 3) := by decide +kernel
set_option maxRecDepth 20000 in
theorem d_139_12 : decode (js_b 139) 12 = .ok (.iconst 0, 1) := by decide +kernel
set_option maxRecDepth 20000 in
theorem d_139_13 : decode (js_b 139) 13 = .ok (.ireturn, 1) := by decide +kernel
set_option maxRecDepth 20000 in
theorem d_139_14 : decode (js_b 139) 14 = .ok (.astore_n 2, 1) := by decide +kernel
set_option maxRecDepth 20000 in
theorem d_139_15 : decode (js_b 139) 15 = .ok (.bipush (-13), 2) := by decide +kernel
set_option maxRecDepth 20000 in
theorem d_139_17 : decode (js_b 139) 17 = .ok (.ireturn, 1) := by decide +kernel
theorem ki_139_15 : js_OkG 139 15 (o_ic (-13) 17) := js_St.okG (st_bipush rfl d_139_15) (fun _ _ _ _ _ => rfl)
theorem ki_139_14 : js_OkG 139 14 (o_aj 2 15) := og_aj1 rfl rfl rfl (Nat.le_of_ble_eq_true rfl) d_139_14
theorem ki_139_13 : js_OkG 139 13 (o_rI) := og_rI rfl d_139_13
theorem ki_139_12 : js_OkG 139 12 (o_ic 0 13) := js_St.okG (st_iconst rfl d_139_12) (fun _ _ _ _ _ => rfl)
theorem ki_139_9 : js_OkG 139 9 (o_go 13) := js_St.okG (st_goto (by decide) d_139_9) (fun _ _ _ _ _ => rfl)
theorem ki_139_8 : js_OkG 139 8 (o_ic 1 9) := js_St.okG (st_iconst rfl d_139_8) (fun _ _ _ _ _ => rfl)
theorem ki_139_5 : js_OkG 139 5 (o_eq 12 8) := js_St.okG (st_ifeq (by decide) d_139_5) (fun _ _ _ _ _ => rfl)
theorem ki_139_2 : js_OkG 139 2 (o_hI 69 2 8 [("java/util/NoSuchElementException", 14)] 5) := og_hI (site_V kk_139_69 (by decide) kw_650 kw_651 kw_652 (fun t ht => by cases ht; exact Or.inl ⟨by decide, _, rfl, rfl⟩) d_139_2) rfl rfl ⟨⟨by decide +kernel, by decide, rfl, rfl⟩, kw_449, kn_321, by decide +kernel, trivial⟩
theorem ki_139_1 : js_OkG 139 1 (o_il 1 2) := js_St.okG (st_iloadn rfl d_139_1) (fun _ _ _ _ _ => rfl)
theorem ki_139_0 : js_OkG 139 0 (o_al 0 1) := js_St.okG (st_aloadn rfl d_139_0) (fun _ _ _ _ _ => rfl)
theorem ki_139_17 : js_OkG 139 17 (o_rI) := og_rI rfl d_139_17
set_option maxRecDepth 20000 in
theorem mk_139 : js_mokG 139 := jk_tab (fun _ => js_St.okG st_bad (fun _ _ _ _ _ => rfl)) (show jk_all (js_OkG 139) 0 tb_139 from ⟨⟨ki_139_0, ⟨ki_139_1, ⟨ki_139_2, ⟨kbadG, ⟨kbadG, ⟨ki_139_5, ⟨kbadG, ⟨kbadG, ⟨ki_139_8, ⟨ki_139_9, ⟨kbadG, ⟨kbadG, ⟨ki_139_12, ⟨ki_139_13, ⟨ki_139_14, ⟨ki_139_15, trivial⟩⟩⟩⟩⟩⟩⟩⟩⟩⟩⟩⟩⟩⟩⟩⟩, ⟨⟨kbadG, ⟨ki_139_17, trivial⟩⟩, trivial⟩⟩)
set_option maxRecDepth 20000 in
theorem d_140_0 : decode (js_b 140) 0 = .ok (.aload_n 0, 1) := by decide +kernel
set_option maxRecDepth 20000 in
theorem d_140_1 : decode (js_b 140) 1 = .ok (.iload_n 1, 1) := by decide +kernel
set_option maxRecDepth 20000 in
theorem d_140_2 : decode (js_b 140) 2 = .ok (.invokevirtual 44, 3) := by decide +kernel
set_option maxRecDepth 20000 in
theorem d_140_5 : decode (js_b 140) 5 = .ok (.ireturn, 1) := by decide +kernel
set_option maxRecDepth 20000 in
theorem d_140_6 : decode (js_b 140) 6 = .ok (.astore_n 2, 1) := by decide +kernel
set_option maxRecDepth 20000 in
theorem d_140_7 : decode (js_b 140) 7 = .ok (.bipush (-13), 2) := by decide +kernel
set_option maxRecDepth 20000 in
theorem d_140_9 : decode (js_b 140) 9 = .ok (.ireturn, 1) := by decide +kernel
theorem ki_140_9 : js_OkG 140 9 (o_rI) := og_rI rfl d_140_9
theorem ki_140_7 : js_OkG 140 7 (o_ic (-13) 9) := js_St.okG (st_bipush rfl d_140_7) (fun _ _ _ _ _ => rfl)
theorem ki_140_6 : js_OkG 140 6 (o_aj 2 7) := og_aj1 rfl rfl rfl (Nat.le_of_ble_eq_true rfl) d_140_6
theorem ki_140_5 : js_OkG 140 5 (o_rI) := og_rI rfl d_140_5
theorem ki_140_2 : js_OkG 140 2 (o_hI 70 2 8 [("java/util/NoSuchElementException", 6)] 5) := og_hI (site_V kk_140_70 (by decide) kw_682 kw_683 kw_684 (fun t ht => by cases ht; exact Or.inl ⟨by decide, _, rfl, rfl⟩) d_140_2) rfl rfl ⟨⟨by decide +kernel, by decide, rfl, rfl⟩, kw_449, kn_321, by decide +kernel, trivial⟩
theorem ki_140_1 : js_OkG 140 1 (o_il 1 2) := js_St.okG (st_iloadn rfl d_140_1) (fun _ _ _ _ _ => rfl)
theorem ki_140_0 : js_OkG 140 0 (o_al 0 1) := js_St.okG (st_aloadn rfl d_140_0) (fun _ _ _ _ _ => rfl)
set_option maxRecDepth 20000 in
theorem mk_140 : js_mokG 140 := jk_tab (fun _ => js_St.okG st_bad (fun _ _ _ _ _ => rfl)) (show jk_all (js_OkG 140) 0 tb_140 from ⟨⟨ki_140_0, ⟨ki_140_1, ⟨ki_140_2, ⟨kbadG, ⟨kbadG, ⟨ki_140_5, ⟨ki_140_6, ⟨ki_140_7, ⟨kbadG, ⟨ki_140_9, trivial⟩⟩⟩⟩⟩⟩⟩⟩⟩⟩, trivial⟩)
set_option maxRecDepth 20000 in
theorem d_141_0 : decode (js_b 141) 0 = .ok (.aload_n 0, 1) := by decide +kernel
set_option maxRecDepth 20000 in
theorem d_141_1 : decode (js_b 141) 1 = .ok (.iload_n 1, 1) := by decide +kernel
set_option maxRecDepth 20000 in
theorem d_141_2 : decode (js_b 141) 2 = .ok (.iload_n 2, 1) := by decide +kernel
set_option maxRecDepth 20000 in
theorem d_141_3 : decode (js_b 141) 3 = .ok (.iload_n 3, 1) := by decide +kernel
set_option maxRecDepth 20000 in
theorem d_141_4 : decode (js_b 141) 4 = .ok (.invokevirtual 47, 3) := by decide +kernel
set_option maxRecDepth 20000 in
theorem d_141_7 : decode (js_b 141) 7 = .ok (.ireturn, 1) := by decide +kernel
set_option maxRecDepth 20000 in
theorem d_141_8 : decode (js_b 141) 8 = .ok (.astore 4, 2) := by decide +kernel
set_option maxRecDepth 20000 in
theorem d_141_10 : decode (js_b 141) 10 = .ok (.iconst (-1), 1) := by decide +kernel
set_option maxRecDepth 20000 in
theorem d_141_11 : decode (js_b 141) 11 = .ok (.ireturn, 1) := by decide +kernel
set_option maxRecDepth 20000 in
theorem d_141_12 : decode (js_b 141) 12 = .ok (.astore 4, 2) := by decide +kernel
set_option maxRecDepth 20000 in
theorem d_141_14 : decode (js_b 141) 14 = .ok (.bipush (-2), 2) := by decide +kernel
set_option maxRecDepth 20000 in
theorem d_141_16 : decode (js_b 141) 16 = .ok (.ireturn, 1) := by decide +kernel
set_option maxRecDepth 20000 in
theorem d_141_17 : decode (js_b 141) 17 = .ok (.astore 4, 2) := by decide +kernel
set_option maxRecDepth 20000 in
theorem d_141_19 : decode (js_b 141) 19 = .ok (.bipush (-3), 2) := by decide +kernel
set_option maxRecDepth 20000 in
theorem d_141_21 : decode (js_b 141) 21 = .ok (.ireturn, 1) := by decide +kernel
theorem ki_141_14 : js_OkG 141 14 (o_ic (-2) 16) := js_St.okG (st_bipush rfl d_141_14) (fun _ _ _ _ _ => rfl)
theorem ki_141_12 : js_OkG 141 12 (o_aj 4 14) := og_aj2 rfl rfl (Nat.le_of_ble_eq_true rfl) d_141_12
theorem ki_141_11 : js_OkG 141 11 (o_rI) := og_rI rfl d_141_11
theorem ki_141_10 : js_OkG 141 10 (o_ic (-1) 11) := js_St.okG (st_iconst rfl d_141_10) (fun _ _ _ _ _ => rfl)
theorem ki_141_8 : js_OkG 141 8 (o_aj 4 10) := og_aj2 rfl rfl (Nat.le_of_ble_eq_true rfl) d_141_8
theorem ki_141_7 : js_OkG 141 7 (o_rI) := og_rI rfl d_141_7
theorem ki_141_4 : js_OkG 141 4 (o_hI 72 4 8 [("java/util/NoSuchElementException", 8), ("java/lang/IndexOutOfBoundsException", 12), ("java/lang/IllegalStateException", 17)] 7) := og_hI (site_V kk_141_72 (by decide) kw_591 kw_592 kw_593 (fun t ht => by cases ht; exact Or.inl ⟨by decide, _, rfl, rfl⟩) d_141_4) rfl rfl ⟨⟨by decide +kernel, by decide, rfl, rfl⟩, kw_449, kn_321, by decide +kernel, ⟨⟨by decide +kernel, by decide, rfl, rfl⟩, kw_469, kn_393, by decide +kernel, ⟨⟨by decide +kernel, by decide, rfl, rfl⟩, kw_274, kn_425, by decide +kernel, trivial⟩⟩⟩
theorem ki_141_3 : js_OkG 141 3 (o_il 3 4) := js_St.okG (st_iloadn rfl d_141_3) (fun _ _ _ _ _ => rfl)
theorem ki_141_2 : js_OkG 141 2 (o_il 2 3) := js_St.okG (st_iloadn rfl d_141_2) (fun _ _ _ _ _ => rfl)
theorem ki_141_1 : js_OkG 141 1 (o_il 1 2) := js_St.okG (st_iloadn rfl d_141_1) (fun _ _ _ _ _ => rfl)
theorem ki_141_0 : js_OkG 141 0 (o_al 0 1) := js_St.okG (st_aloadn rfl d_141_0) (fun _ _ _ _ _ => rfl)
theorem ki_141_21 : js_OkG 141 21 (o_rI) := og_rI rfl d_141_21
theorem ki_141_19 : js_OkG 141 19 (o_ic (-3) 21) := js_St.okG (st_bipush rfl d_141_19) (fun _ _ _ _ _ => rfl)
theorem ki_141_17 : js_OkG 141 17 (o_aj 4 19) := og_aj2 rfl rfl (Nat.le_of_ble_eq_true rfl) d_141_17
theorem ki_141_16 : js_OkG 141 16 (o_rI) := og_rI rfl d_141_16
set_option maxRecDepth 20000 in
theorem mk_141 : js_mokG 141 := jk_tab (fun _ => js_St.okG st_bad (fun _ _ _ _ _ => rfl)) (show jk_all (js_OkG 141) 0 tb_141 from ⟨⟨ki_141_0, ⟨ki_141_1, ⟨ki_141_2, ⟨ki_141_3, ⟨ki_141_4, ⟨kbadG, ⟨kbadG, ⟨ki_141_7, ⟨ki_141_8, ⟨kbadG, ⟨ki_141_10, ⟨ki_141_11, ⟨ki_141_12, ⟨kbadG, ⟨ki_141_14, ⟨kbadG, trivial⟩⟩⟩⟩⟩⟩⟩⟩⟩⟩⟩⟩⟩⟩⟩⟩, ⟨⟨ki_141_16, ⟨ki_141_17, ⟨kbadG, ⟨ki_141_19, ⟨kbadG, ⟨ki_141_21, trivial⟩⟩⟩⟩⟩⟩, trivial⟩⟩)
set_option maxRecDepth 20000 in
theorem d_142_0 : decode (js_b 142) 0 = .ok (.aload_n 0, 1) := by decide +kernel
set_option maxRecDepth 20000 in
theorem d_142_1 : decode (js_b 142) 1 = .ok (.iload_n 1, 1) := by decide +kernel
set_option maxRecDepth 20000 in
theorem d_142_2 : decode (js_b 142) 2 = .ok (.invokevirtual 51, 3) := by decide +kernel
set_option maxRecDepth 20000 in
theorem d_142_5 : decode (js_b 142) 5 = .ok (.ireturn, 1) := by decide +kernel
set_option maxRecDepth 20000 in
theorem d_142_6 : decode (js_b 142) 6 = .ok (.astore_n 2, 1) := by decide +kernel
set_option maxRecDepth 20000 in
theorem d_142_7 : decode (js_b 142) 7 = .ok (.iconst (-1), 1) := by decide +kernel
set_option maxRecDepth 20000 in
theorem d_142_8 : decode (js_b 142) 8 = .ok (.ireturn, 1) := by decide +kernel
set_option maxRecDepth 20000 in
theorem d_142_9 : decode (js_b 142) 9 = .ok (.astore_n 2, 1) := by decide +kernel
set_option maxRecDepth 20000 in
theorem d_142_10 : decode (js_b 142) 10 = .ok (.bipush (-2), 2) := by decide +kernel
set_option maxRecDepth 20000 in
theorem d_142_12 : decode (js_b 142) 12 = .ok (.ireturn, 1) := by decide +kernel
theorem ki_142_12 : js_OkG 142 12 (o_rI) := og_rI rfl d_142_12
theorem ki_142_10 : js_OkG 142 10 (o_ic (-2) 12) := js_St.okG (st_bipush rfl d_142_10) (fun _ _ _ _ _ => rfl)
theorem ki_142_9 : js_OkG 142 9 (o_aj 2 10) := og_aj1 rfl rfl rfl (Nat.le_of_ble_eq_true rfl) d_142_9
theorem ki_142_8 : js_OkG 142 8 (o_rI) := og_rI rfl d_142_8
theorem ki_142_7 : js_OkG 142 7 (o_ic (-1) 8) := js_St.okG (st_iconst rfl d_142_7) (fun _ _ _ _ _ => rfl)
theorem ki_142_6 : js_OkG 142 6 (o_aj 2 7) := og_aj1 rfl rfl rfl (Nat.le_of_ble_eq_true rfl) d_142_6
theorem ki_142_5 : js_OkG 142 5 (o_rI) := og_rI rfl d_142_5
theorem ki_142_2 : js_OkG 142 2 (o_hI 73 2 8 [("java/util/NoSuchElementException", 6), ("java/lang/IllegalStateException", 9)] 5) := og_hI (site_V kk_142_73 (by decide) kw_613 kw_614 kw_615 (fun t ht => by cases ht; exact Or.inl ⟨by decide, _, rfl, rfl⟩) d_142_2) rfl rfl ⟨⟨by decide +kernel, by decide, rfl, rfl⟩, kw_449, kn_321, by decide +kernel, ⟨⟨by decide +kernel, by decide, rfl, rfl⟩, kw_274, kn_425, by decide +kernel, trivial⟩⟩
theorem ki_142_1 : js_OkG 142 1 (o_il 1 2) := js_St.okG (st_iloadn rfl d_142_1) (fun _ _ _ _ _ => rfl)
theorem ki_142_0 : js_OkG 142 0 (o_al 0 1) := js_St.okG (st_aloadn rfl d_142_0) (fun _ _ _ _ _ => rfl)
set_option maxRecDepth 20000 in
theorem mk_142 : js_mokG 142 := jk_tab (fun _ => js_St.okG st_bad (fun _ _ _ _ _ => rfl)) (show jk_all (js_OkG 142) 0 tb_142 from ⟨⟨ki_142_0, ⟨ki_142_1, ⟨ki_142_2, ⟨kbadG, ⟨kbadG, ⟨ki_142_5, ⟨ki_142_6, ⟨ki_142_7, ⟨ki_142_8, ⟨ki_142_9, ⟨ki_142_10, ⟨kbadG, ⟨ki_142_12, trivial⟩⟩⟩⟩⟩⟩⟩⟩⟩⟩⟩⟩⟩, trivial⟩)
set_option maxRecDepth 20000 in
theorem d_143_0 : decode (js_b 143) 0 = .ok (.aload_n 0, 1) := by decide +kernel
set_option maxRecDepth 20000 in
theorem d_143_1 : decode (js_b 143) 1 = .ok (.iload_n 1, 1) := by decide +kernel
set_option maxRecDepth 20000 in
theorem d_143_2 : decode (js_b 143) 2 = .ok (.iload_n 2, 1) := by decide +kernel
set_option maxRecDepth 20000 in
theorem d_143_3 : decode (js_b 143) 3 = .ok (.invokevirtual 54, 3) := by decide +kernel
set_option maxRecDepth 20000 in
theorem d_143_6 : decode (js_b 143) 6 = .ok (.ireturn, 1) := by decide +kernel
set_option maxRecDepth 20000 in
theorem d_143_7 : decode (js_b 143) 7 = .ok (.astore_n 3, 1) := by decide +kernel
set_option maxRecDepth 20000 in
theorem d_143_8 : decode (js_b 143) 8 = .ok (.iconst (-1), 1) := by decide +kernel
set_option maxRecDepth 20000 in
theorem d_143_9 : decode (js_b 143) 9 = .ok (.ireturn, 1) := by decide +kernel
set_option maxRecDepth 20000 in
theorem d_143_10 : decode (js_b 143) 10 = .ok (.astore_n 3, 1) := by decide +kernel
set_option maxRecDepth 20000 in
theorem d_143_11 : decode (js_b 143) 11 = .ok (.bipush (-2), 2) := by decide +kernel
set_option maxRecDepth 20000 in
theorem d_143_13 : decode (js_b 143) 13 = .ok (.ireturn, 1) := by decide +kernel
theorem ki_143_13 : js_OkG 143 13 (o_rI) := og_rI rfl d_143_13
theorem ki_143_11 : js_OkG 143 11 (o_ic (-2) 13) := js_St.okG (st_bipush rfl d_143_11) (fun _ _ _ _ _ => rfl)
theorem ki_143_10 : js_OkG 143 10 (o_aj 3 11) := og_aj1 rfl rfl rfl (Nat.le_of_ble_eq_true rfl) d_143_10
theorem ki_143_9 : js_OkG 143 9 (o_rI) := og_rI rfl d_143_9
theorem ki_143_8 : js_OkG 143 8 (o_ic (-1) 9) := js_St.okG (st_iconst rfl d_143_8) (fun _ _ _ _ _ => rfl)
theorem ki_143_7 : js_OkG 143 7 (o_aj 3 8) := og_aj1 rfl rfl rfl (Nat.le_of_ble_eq_true rfl) d_143_7
theorem ki_143_6 : js_OkG 143 6 (o_rI) := og_rI rfl d_143_6
theorem ki_143_3 : js_OkG 143 3 (o_hI 74 3 8 [("java/util/NoSuchElementException", 7), ("java/lang/IllegalArgumentException", 10)] 6) := og_hI (site_V kk_143_74 (by decide) kw_450 kw_451 kw_452 (fun t ht => by cases ht; exact Or.inl ⟨by decide, _, rfl, rfl⟩) d_143_3) rfl rfl ⟨⟨by decide +kernel, by decide, rfl, rfl⟩, kw_449, kn_321, by decide +kernel, ⟨⟨by decide +kernel, by decide, rfl, rfl⟩, kw_273, kn_409, by decide +kernel, trivial⟩⟩
theorem ki_143_2 : js_OkG 143 2 (o_il 2 3) := js_St.okG (st_iloadn rfl d_143_2) (fun _ _ _ _ _ => rfl)
theorem ki_143_1 : js_OkG 143 1 (o_il 1 2) := js_St.okG (st_iloadn rfl d_143_1) (fun _ _ _ _ _ => rfl)
theorem ki_143_0 : js_OkG 143 0 (o_al 0 1) := js_St.okG (st_aloadn rfl d_143_0) (fun _ _ _ _ _ => rfl)
set_option maxRecDepth 20000 in
theorem mk_143 : js_mokG 143 := jk_tab (fun _ => js_St.okG st_bad (fun _ _ _ _ _ => rfl)) (show jk_all (js_OkG 143) 0 tb_143 from ⟨⟨ki_143_0, ⟨ki_143_1, ⟨ki_143_2, ⟨ki_143_3, ⟨kbadG, ⟨kbadG, ⟨ki_143_6, ⟨ki_143_7, ⟨ki_143_8, ⟨ki_143_9, ⟨ki_143_10, ⟨ki_143_11, ⟨kbadG, ⟨ki_143_13, trivial⟩⟩⟩⟩⟩⟩⟩⟩⟩⟩⟩⟩⟩⟩, trivial⟩)
set_option maxRecDepth 20000 in
theorem d_144_0 : decode (js_b 144) 0 = .ok (.aload_n 0, 1) := by decide +kernel
set_option maxRecDepth 20000 in
theorem d_144_1 : decode (js_b 144) 1 = .ok (.iload_n 1, 1) := by decide +kernel
set_option maxRecDepth 20000 in
theorem d_144_2 : decode (js_b 144) 2 = .ok (.iload_n 2, 1) := by decide +kernel
set_option maxRecDepth 20000 in
theorem d_144_3 : decode (js_b 144) 3 = .ok (.invokevirtual 57, 3) := by decide +kernel
set_option maxRecDepth 20000 in
theorem d_144_6 : decode (js_b 144) 6 = .ok (.ireturn, 1) := by decide +kernel
set_option maxRecDepth 20000 in
theorem d_144_7 : decode (js_b 144) 7 = .ok (.astore_n 3, 1) := by decide +kernel
set_option maxRecDepth 20000 in
theorem d_144_8 : decode (js_b 144) 8 = .ok (.iconst (-1), 1) := by decide +kernel
set_option maxRecDepth 20000 in
theorem d_144_9 : decode (js_b 144) 9 = .ok (.ireturn, 1) := by decide +kernel
set_option maxRecDepth 20000 in
theorem d_144_10 : decode (js_b 144) 10 = .ok (.astore_n 3, 1) := by decide +kernel
set_option maxRecDepth 20000 in
theorem d_144_11 : decode (js_b 144) 11 = .ok (.bipush (-2), 2) := by decide +kernel
set_option maxRecDepth 20000 in
theorem d_144_13 : decode (js_b 144) 13 = .ok (.ireturn, 1) := by decide +kernel
set_option maxRecDepth 20000 in
theorem d_144_14 : decode (js_b 144) 14 = .ok (.astore_n 3, 1) := by decide +kernel
set_option maxRecDepth 20000 in
theorem d_144_15 : decode (js_b 144) 15 = .ok (.bipush (-3), 2) := by decide +kernel
set_option maxRecDepth 20000 in
theorem d_144_17 : decode (js_b 144) 17 = .ok (.ireturn, 1) := by decide +kernel
theorem ki_144_15 : js_OkG 144 15 (o_ic (-3) 17) := js_St.okG (st_bipush rfl d_144_15) (fun _ _ _ _ _ => rfl)
theorem ki_144_14 : js_OkG 144 14 (o_aj 3 15) := og_aj1 rfl rfl rfl (Nat.le_of_ble_eq_true rfl) d_144_14
theorem ki_144_13 : js_OkG 144 13 (o_rI) := og_rI rfl d_144_13
theorem ki_144_11 : js_OkG 144 11 (o_ic (-2) 13) := js_St.okG (st_bipush rfl d_144_11) (fun _ _ _ _ _ => rfl)
theorem ki_144_10 : js_OkG 144 10 (o_aj 3 11) := og_aj1 rfl rfl rfl (Nat.le_of_ble_eq_true rfl) d_144_10
theorem ki_144_9 : js_OkG 144 9 (o_rI) := og_rI rfl d_144_9
theorem ki_144_8 : js_OkG 144 8 (o_ic (-1) 9) := js_St.okG (st_iconst rfl d_144_8) (fun _ _ _ _ _ => rfl)
theorem ki_144_7 : js_OkG 144 7 (o_aj 3 8) := og_aj1 rfl rfl rfl (Nat.le_of_ble_eq_true rfl) d_144_7
theorem ki_144_6 : js_OkG 144 6 (o_rI) := og_rI rfl d_144_6
theorem ki_144_3 : js_OkG 144 3 (o_hI 75 3 8 [("java/util/NoSuchElementException", 7), ("java/lang/IllegalArgumentException", 10), ("java/lang/IllegalStateException", 14)] 6) := og_hI (site_V kk_144_75 (by decide) kw_1334 kw_1335 kw_1336 (fun t ht => by cases ht; exact Or.inl ⟨by decide, _, rfl, rfl⟩) d_144_3) rfl rfl ⟨⟨by decide +kernel, by decide, rfl, rfl⟩, kw_449, kn_321, by decide +kernel, ⟨⟨by decide +kernel, by decide, rfl, rfl⟩, kw_273, kn_409, by decide +kernel, ⟨⟨by decide +kernel, by decide, rfl, rfl⟩, kw_274, kn_425, by decide +kernel, trivial⟩⟩⟩
theorem ki_144_2 : js_OkG 144 2 (o_il 2 3) := js_St.okG (st_iloadn rfl d_144_2) (fun _ _ _ _ _ => rfl)
theorem ki_144_1 : js_OkG 144 1 (o_il 1 2) := js_St.okG (st_iloadn rfl d_144_1) (fun _ _ _ _ _ => rfl)
theorem ki_144_0 : js_OkG 144 0 (o_al 0 1) := js_St.okG (st_aloadn rfl d_144_0) (fun _ _ _ _ _ => rfl)
theorem ki_144_17 : js_OkG 144 17 (o_rI) := og_rI rfl d_144_17
set_option maxRecDepth 20000 in
theorem mk_144 : js_mokG 144 := jk_tab (fun _ => js_St.okG st_bad (fun _ _ _ _ _ => rfl)) (show jk_all (js_OkG 144) 0 tb_144 from ⟨⟨ki_144_0, ⟨ki_144_1, ⟨ki_144_2, ⟨ki_144_3, ⟨kbadG, ⟨kbadG, ⟨ki_144_6, ⟨ki_144_7, ⟨ki_144_8, ⟨ki_144_9, ⟨ki_144_10, ⟨ki_144_11, ⟨kbadG, ⟨ki_144_13, ⟨ki_144_14, ⟨ki_144_15, trivial⟩⟩⟩⟩⟩⟩⟩⟩⟩⟩⟩⟩⟩⟩⟩⟩, ⟨⟨kbadG, ⟨ki_144_17, trivial⟩⟩, trivial⟩⟩)
set_option maxRecDepth 20000 in
theorem d_145_0 : decode (js_b 145) 0 = .ok (.aload_n 0, 1) := by decide +kernel
set_option maxRecDepth 20000 in
theorem d_145_1 : decode (js_b 145) 1 = .ok (.iload_n 1, 1) := by decide +kernel
set_option maxRecDepth 20000 in
theorem d_145_2 : decode (js_b 145) 2 = .ok (.iload_n 2, 1) := by decide +kernel
set_option maxRecDepth 20000 in
theorem d_145_3 : decode (js_b 145) 3 = .ok (.invokevirtual 60, 3) := by decide +kernel
set_option maxRecDepth 20000 in
theorem d_145_6 : decode (js_b 145) 6 = .ok (.ireturn, 1) := by decide +kernel
set_option maxRecDepth 20000 in
theorem d_145_7 : decode (js_b 145) 7 = .ok (.astore_n 3, 1) := by decide +kernel
set_option maxRecDepth 20000 in
theorem d_145_8 : decode (js_b 145) 8 = .ok (.iconst (-1), 1) := by decide +kernel
set_option maxRecDepth 20000 in
theorem d_145_9 : decode (js_b 145) 9 = .ok (.ireturn, 1) := by decide +kernel
set_option maxRecDepth 20000 in
theorem d_145_10 : decode (js_b 145) 10 = .ok (.astore_n 3, 1) := by decide +kernel
set_option maxRecDepth 20000 in
theorem d_145_11 : decode (js_b 145) 11 = .ok (.bipush (-2), 2) := by decide +kernel
set_option maxRecDepth 20000 in
theorem d_145_13 : decode (js_b 145) 13 = .ok (.ireturn, 1) := by decide +kernel
set_option maxRecDepth 20000 in
theorem d_145_14 : decode (js_b 145) 14 = .ok (.astore_n 3, 1) := by decide +kernel
set_option maxRecDepth 20000 in
theorem d_145_15 : decode (js_b 145) 15 = .ok (.bipush (-3), 2) := by decide +kernel
set_option maxRecDepth 20000 in
theorem d_145_17 : decode (js_b 145) 17 = .ok (.ireturn, 1) := by decide +kernel
theorem ki_145_15 : js_OkG 145 15 (o_ic (-3) 17) := js_St.okG (st_bipush rfl d_145_15) (fun _ _ _ _ _ => rfl)
theorem ki_145_14 : js_OkG 145 14 (o_aj 3 15) := og_aj1 rfl rfl rfl (Nat.le_of_ble_eq_true rfl) d_145_14
theorem ki_145_13 : js_OkG 145 13 (o_rI) := og_rI rfl d_145_13
theorem ki_145_11 : js_OkG 145 11 (o_ic (-2) 13) := js_St.okG (st_bipush rfl d_145_11) (fun _ _ _ _ _ => rfl)
theorem ki_145_10 : js_OkG 145 10 (o_aj 3 11) := og_aj1 rfl rfl rfl (Nat.le_of_ble_eq_true rfl) d_145_10
theorem ki_145_9 : js_OkG 145 9 (o_rI) := og_rI rfl d_145_9
theorem ki_145_8 : js_OkG 145 8 (o_ic (-1) 9) := js_St.okG (st_iconst rfl d_145_8) (fun _ _ _ _ _ => rfl)
theorem ki_145_7 : js_OkG 145 7 (o_aj 3 8) := og_aj1 rfl rfl rfl (Nat.le_of_ble_eq_true rfl) d_145_7
theorem ki_145_6 : js_OkG 145 6 (o_rI) := og_rI rfl d_145_6
theorem ki_145_3 : js_OkG 145 3 (o_hI 76 3 8 [("java/lang/IndexOutOfBoundsException", 7), ("java/lang/UnsupportedOperationException", 10), ("java/util/NoSuchElementException", 14)] 6) := og_hI (site_V kk_145_76 (by decide) kw_491 kw_492 kw_493 (fun t ht => by cases ht; exact Or.inl ⟨by decide, _, rfl, rfl⟩) d_145_3) rfl rfl ⟨⟨by decide +kernel, by decide, rfl, rfl⟩, kw_469, kn_393, by decide +kernel, ⟨⟨by decide +kernel, by decide, rfl, rfl⟩, kw_490, kn_525, by decide +kernel, ⟨⟨by decide +kernel, by decide, rfl, rfl⟩, kw_449, kn_321, by decide +kernel, trivial⟩⟩⟩
theorem ki_145_2 : js_OkG 145 2 (o_il 2 3) := js_St.okG (st_iloadn rfl d_145_2) (fun _ _ _ _ _ => rfl)
theorem ki_145_1 : js_OkG 145 1 (o_il 1 2) := js_St.okG (st_iloadn rfl d_145_1) (fun _ _ _ _ _ => rfl)
theorem ki_145_0 : js_OkG 145 0 (o_al 0 1) := js_St.okG (st_aloadn rfl d_145_0) (fun _ _ _ _ _ => rfl)
theorem ki_145_17 : js_OkG 145 17 (o_rI) := og_rI rfl d_145_17
set_option maxRecDepth 20000 in
theorem mk_145 : js_mokG 145 := jk_tab (fun _ => js_St.okG st_bad (fun _ _ _ _ _ => rfl)) (show jk_all (js_OkG 145) 0 tb_145 from ⟨⟨ki_145_0, ⟨ki_145_1, ⟨ki_145_2, ⟨ki_145_3, ⟨kbadG, ⟨kbadG, ⟨ki_145_6, ⟨ki_145_7, ⟨ki_145_8, ⟨ki_145_9, ⟨ki_145_10, ⟨ki_145_11, ⟨kbadG, ⟨ki_145_13, ⟨ki_145_14, ⟨ki_145_15, trivial⟩⟩⟩⟩⟩⟩⟩⟩⟩⟩⟩⟩⟩⟩⟩⟩, ⟨⟨kbadG, ⟨ki_145_17, trivial⟩⟩, trivial⟩⟩)
set_option maxRecDepth 20000 in
theorem d_146_0 : decode (js_b 146) 0 = .ok (.aload_n 0, 1) := by decide +kernel
set_option maxRecDepth 20000 in
theorem d_146_1 : decode (js_b 146) 1 = .ok (.iload_n 1, 1) := by decide +kernel
set_option maxRecDepth 20000 in
theorem d_146_2 : decode (js_b 146) 2 = .ok (.iload_n 2, 1) := by decide +kernel
set_option maxRecDepth 20000 in
theorem d_146_3 : decode (js_b 146) 3 = .ok (.invokevirtual 65, 3) := by decide +kernel
set_option maxRecDepth 20000 in
theorem d_146_6 : decode (js_b 146) 6 = .ok (.ifCond .eq 7, 3) := by decide +kernel
set_option maxRecDepth 20000 in
theorem d_146_9 : decode (js_b 146) 9 = .ok (.iconst 1, 1) := by decide +kernel
set_option maxRecDepth 20000 in
theorem d_146_10 : decode (js_b 146) 10 = .ok (.goto 4, 3) := by decide +kernel
set_option maxRecDepth 20000 in
theorem d_146_13 : decode (js_b 146) 13 = .ok (.iconst 0, 1) := by decide +kernel
set_option maxRecDepth 20000 in
theorem d_146_14 : decode (js_b 146) 14 = .ok (.ireturn, 1) := by decide +kernel
set_option maxRecDepth 20000 in
theorem d_146_15 : decode (js_b 146) 15 = .ok (.astore_n 3, 1) := by decide +kernel
set_option maxRecDepth 20000 in
theorem d_146_16 : decode (js_b 146) 16 = .ok (.bipush (-11), 2) := by decide +kernel
set_option maxRecDepth 20000 in
theorem d_146_18 : decode (js_b 146) 18 = .ok (.ireturn, 1) := by decide +kernel
theorem ki_146_15 : js_OkG 146 15 (o_aj 3 16) := og_aj1 rfl rfl rfl (Nat.le_of_ble_eq_true rfl) d_146_15
theorem ki_146_14 : js_OkG 146 14 (o_rI) := og_rI rfl d_146_14
theorem ki_146_13 : js_OkG 146 13 (o_ic 0 14) := js_St.okG (st_iconst rfl d_146_13) (fun _ _ _ _ _ => rfl)
theorem ki_146_10 : js_OkG 146 10 (o_go 14) := js_St.okG (st_goto (by decide) d_146_10) (fun _ _ _ _ _ => rfl)
theorem ki_146_9 : js_OkG 146 9 (o_ic 1 10) := js_St.okG (st_iconst rfl d_146_9) (fun _ _ _ _ _ => rfl)
theorem ki_146_6 : js_OkG 146 6 (o_eq 13 9) := js_St.okG (st_ifeq (by decide) d_146_6) (fun _ _ _ _ _ => rfl)
theorem ki_146_3 : js_OkG 146 3 (o_hI 78 3 8 [("java/lang/IndexOutOfBoundsException", 15)] 6) := og_hI (site_V kk_146_78 (by decide) kw_781 kw_782 kw_783 (fun t ht => by cases ht; exact Or.inl ⟨by decide, _, rfl, rfl⟩) d_146_3) rfl rfl ⟨⟨by decide +kernel, by decide, rfl, rfl⟩, kw_469, kn_393, by decide +kernel, trivial⟩
theorem ki_146_2 : js_OkG 146 2 (o_il 2 3) := js_St.okG (st_iloadn rfl d_146_2) (fun _ _ _ _ _ => rfl)
theorem ki_146_1 : js_OkG 146 1 (o_il 1 2) := js_St.okG (st_iloadn rfl d_146_1) (fun _ _ _ _ _ => rfl)
theorem ki_146_0 : js_OkG 146 0 (o_al 0 1) := js_St.okG (st_aloadn rfl d_146_0) (fun _ _ _ _ _ => rfl)
theorem ki_146_18 : js_OkG 146 18 (o_rI) := og_rI rfl d_146_18
theorem ki_146_16 : js_OkG 146 16 (o_ic (-11) 18) := js_St.okG (st_bipush rfl d_146_16) (fun _ _ _ _ _ => rfl)
set_option maxRecDepth 20000 in
theorem mk_146 : js_mokG 146 := jk_tab (fun _ => js_St.okG st_bad (fun _ _ _ _ _ => rfl)) (show jk_all (js_OkG 146) 0 tb_146 from ⟨⟨ki_146_0, ⟨ki_146_1, ⟨ki_146_2, ⟨ki_146_3, ⟨kbadG, ⟨kbadG, ⟨ki_146_6, ⟨kbadG, ⟨kbadG, ⟨ki_146_9, ⟨ki_146_10, ⟨kbadG, ⟨kbadG, ⟨ki_146_13, ⟨ki_146_14, ⟨ki_146_15, trivial⟩⟩⟩⟩⟩⟩⟩⟩⟩⟩⟩⟩⟩⟩⟩⟩, ⟨⟨ki_146_16, ⟨kbadG, ⟨ki_146_18, trivial⟩⟩⟩, trivial⟩⟩)
set_option maxRecDepth 20000 in
theorem d_147_0 : decode (js_b 147) 0 = .ok (.aload_n 0, 1) := by decide +kernel
set_option maxRecDepth 20000 in
theorem d_147_1 : decode (js_b 147) 1 = .ok (.iload_n 1, 1) := by decide +kernel
set_option maxRecDepth 20000 in
theorem d_147_2 : decode (js_b 147) 2 = .ok (.iload_n 2, 1) := by decide +kernel
set_option maxRecDepth 20000 in
theorem d_147_3 : decode (js_b 147) 3 = .ok (.invokevirtual 69, 3) := by decide +kernel
set_option maxRecDepth 20000 in
theorem d_147_6 : decode (js_b 147) 6 = .ok (.ireturn, 1) := by decide +kernel
set_option maxRecDepth 20000 in
theorem d_147_7 : decode (js_b 147) 7 = .ok (.astore_n 3, 1) := by decide +kernel
set_option maxRecDepth 20000 in
theorem d_147_8 : decode (js_b 147) 8 = .ok (.bipush (-11), 2) := by decide +kernel
set_option maxRecDepth 20000 in
theorem d_147_10 : decode (js_b 147) 10 = .ok (.ireturn, 1) := by decide +kernel
set_option maxRecDepth 20000 in
theorem d_147_11 : decode (js_b 147) 11 = .ok (.astore_n 3, 1) := by decide +kernel
set_option maxRecDepth 20000 in
theorem d_147_12 : decode (js_b 147) 12 = .ok (.bipush (-13), 2) := by decide +kernel
set_option maxRecDepth 20000 in
theorem d_147_14 : decode (js_b 147) 14 = .ok (.ireturn, 1) := by decide +kernel
theorem ki_147_14 : js_OkG 147 14 (o_rI) := og_rI rfl d_147_14
theorem ki_147_12 : js_OkG 147 12 (o_ic (-13) 14) := js_St.okG (st_bipush rfl d_147_12) (fun _ _ _ _ _ => rfl)
theorem ki_147_11 : js_OkG 147 11 (o_aj 3 12) := og_aj1 rfl rfl rfl (Nat.le_of_ble_eq_true rfl) d_147_11
theorem ki_147_10 : js_OkG 147 10 (o_rI) := og_rI rfl d_147_10
theorem ki_147_8 : js_OkG 147 8 (o_ic (-11) 10) := js_St.okG (st_bipush rfl d_147_8) (fun _ _ _ _ _ => rfl)
theorem ki_147_7 : js_OkG 147 7 (o_aj 3 8) := og_aj1 rfl rfl rfl (Nat.le_of_ble_eq_true rfl) d_147_7
theorem ki_147_6 : js_OkG 147 6 (o_rI) := og_rI rfl d_147_6
theorem ki_147_3 : js_OkG 147 3 (o_hI 79 3 8 [("java/lang/IndexOutOfBoundsException", 7), ("java/util/NoSuchElementException", 11)] 6) := og_hI (site_V kk_147_79 (by decide) kw_741 kw_742 kw_743 (fun t ht => by cases ht; exact Or.inl ⟨by decide, _, rfl, rfl⟩) d_147_3) rfl rfl ⟨⟨by decide +kernel, by decide, rfl, rfl⟩, kw_469, kn_393, by decide +kernel, ⟨⟨by decide +kernel, by decide, rfl, rfl⟩, kw_449, kn_321, by decide +kernel, trivial⟩⟩
theorem ki_147_2 : js_OkG 147 2 (o_il 2 3) := js_St.okG (st_iloadn rfl d_147_2) (fun _ _ _ _ _ => rfl)
theorem ki_147_1 : js_OkG 147 1 (o_il 1 2) := js_St.okG (st_iloadn rfl d_147_1) (fun _ _ _ _ _ => rfl)
theorem ki_147_0 : js_OkG 147 0 (o_al 0 1) := js_St.okG (st_aloadn rfl d_147_0) (fun _ _ _ _ _ => rfl)
set_option maxRecDepth 20000 in
theorem mk_147 : js_mokG 147 := jk_tab (fun _ => js_St.okG st_bad (fun _ _ _ _ _ => rfl)) (show jk_all (js_OkG 147) 0 tb_147 from ⟨⟨ki_147_0, ⟨ki_147_1, ⟨ki_147_2, ⟨ki_147_3, ⟨kbadG, ⟨kbadG, ⟨ki_147_6, ⟨ki_147_7, ⟨ki_147_8, ⟨kbadG, ⟨ki_147_10, ⟨ki_147_11, ⟨ki_147_12, ⟨kbadG, ⟨ki_147_14, trivial⟩⟩⟩⟩⟩⟩⟩⟩⟩⟩⟩⟩⟩⟩⟩, trivial⟩)
set_option maxRecDepth 20000 in
theorem d_148_0 : decode (js_b 148) 0 = .ok (.aload_n 0, 1) := by decide +kernel
set_option maxRecDepth 20000 in
theorem d_148_1 : decode (js_b 148) 1 = .ok (.iload_n 1, 1) := by decide +kernel
set_option maxRecDepth 20000 in
theorem d_148_2 : decode (js_b 148) 2 = .ok (.iload_n 2, 1) := by decide +kernel
set_option maxRecDepth 20000 in
theorem d_148_3 : decode (js_b 148) 3 = .ok (.invokevirtual 72, 3) := by decide +kernel
set_option maxRecDepth 20000 in
theorem d_148_6 : decode (js_b 148) 6 = .ok (.ifCond .eq 7, 3) := by decide +kernel
set_option maxRecDepth 20000 in
theorem d_148_9 : decode (js_b 148) 9 = .ok (.iconst 1, 1) := by decide +kernel
set_option maxRecDepth 20000 in
theorem d_148_10 : decode (js_b 148) 10 = .ok (.goto 4, 3) := by decide +kernel
set_option maxRecDepth 20000 in
theorem d_148_13 : decode (js_b 148) 13 = .ok (.iconst 0, 1) := by decide +kernel
set_option maxRecDepth 20000 in
theorem d_148_14 : decode (js_b 148) 14 = .ok (.ireturn, 1) := by decide +kernel
set_option maxRecDepth 20000 in
theorem d_148_15 : decode (js_b 148) 15 = .ok (.astore_n 3, 1) := by decide +kernel
set_option maxRecDepth 20000 in
theorem d_148_16 : decode (js_b 148) 16 = .ok (.bipush (-13), 2) := by decide +kernel
set_option maxRecDepth 20000 in
theorem d_148_18 : decode (js_b 148) 18 = .ok (.ireturn, 1) := by decide +kernel
set_option maxRecDepth 20000 in
theorem d_148_19 : decode (js_b 148) 19 = .ok (.astore_n 3, 1) := by decide +kernel
set_option maxRecDepth 20000 in
theorem d_148_20 : decode (js_b 148) 20 = .ok (.bipush (-12), 2) := by decide +kernel
set_option maxRecDepth 20000 in
theorem d_148_22 : decode (js_b 148) 22 = .ok (.ireturn, 1) := by decide +kernel
theorem ki_148_15 : js_OkG 148 15 (o_aj 3 16) := og_aj1 rfl rfl rfl (Nat.le_of_ble_eq_true rfl) d_148_15
theorem ki_148_14 : js_OkG 148 14 (o_rI) := og_rI rfl d_148_14
theorem ki_148_13 : js_OkG 148 13 (o_ic 0 14) := js_St.okG (st_iconst rfl d_148_13) (fun _ _ _ _ _ => rfl)
theorem ki_148_10 : js_OkG 148 10 (o_go 14) := js_St.okG (st_goto (by decide) d_148_10) (fun _ _ _ _ _ => rfl)
theorem ki_148_9 : js_OkG 148 9 (o_ic 1 10) := js_St.okG (st_iconst rfl d_148_9) (fun _ _ _ _ _ => rfl)
theorem ki_148_6 : js_OkG 148 6 (o_eq 13 9) := js_St.okG (st_ifeq (by decide) d_148_6) (fun _ _ _ _ _ => rfl)
theorem ki_148_3 : js_OkG 148 3 (o_hI 87 3 8 [("java/util/NoSuchElementException", 15), ("java/lang/IllegalArgumentException", 19)] 6) := og_hI (site_V kk_148_87 (by decide) kw_694 kw_695 kw_696 (fun t ht => by cases ht; exact Or.inl ⟨by decide, _, rfl, rfl⟩) d_148_3) rfl rfl ⟨⟨by decide +kernel, by decide, rfl, rfl⟩, kw_449, kn_321, by decide +kernel, ⟨⟨by decide +kernel, by decide, rfl, rfl⟩, kw_273, kn_409, by decide +kernel, trivial⟩⟩
theorem ki_148_2 : js_OkG 148 2 (o_il 2 3) := js_St.okG (st_iloadn rfl d_148_2) (fun _ _ _ _ _ => rfl)
theorem ki_148_1 : js_OkG 148 1 (o_il 1 2) := js_St.okG (st_iloadn rfl d_148_1) (fun _ _ _ _ _ => rfl)
theorem ki_148_0 : js_OkG 148 0 (o_al 0 1) := js_St.okG (st_aloadn rfl d_148_0) (fun _ _ _ _ _ => rfl)
theorem ki_148_22 : js_OkG 148 22 (o_rI) := og_rI rfl d_148_22
theorem ki_148_20 : js_OkG 148 20 (o_ic (-12) 22) := js_St.okG (st_bipush rfl d_148_20) (fun _ _ _ _ _ => rfl)
theorem ki_148_19 : js_OkG 148 19 (o_aj 3 20) := og_aj1 rfl rfl rfl (Nat.le_of_ble_eq_true rfl) d_148_19
theorem ki_148_18 : js_OkG 148 18 (o_rI) := og_rI rfl d_148_18
theorem ki_148_16 : js_OkG 148 16 (o_ic (-13) 18) := js_St.okG (st_bipush rfl d_148_16) (fun _ _ _ _ _ => rfl)
set_option maxRecDepth 20000 in
theorem mk_148 : js_mokG 148 := jk_tab (fun _ => js_St.okG st_bad (fun _ _ _ _ _ => rfl)) (show jk_all (js_OkG 148) 0 tb_148 from ⟨⟨ki_148_0, ⟨ki_148_1, ⟨ki_148_2, ⟨ki_148_3, ⟨kbadG, ⟨kbadG, ⟨ki_148_6, ⟨kbadG, ⟨kbadG, ⟨ki_148_9, ⟨ki_148_10, ⟨kbadG, ⟨kbadG, ⟨ki_148_13, ⟨ki_148_14, ⟨ki_148_15, trivial⟩⟩⟩⟩⟩⟩⟩⟩⟩⟩⟩⟩⟩⟩⟩⟩, ⟨⟨ki_148_16, ⟨kbadG, ⟨ki_148_18, ⟨ki_148_19, ⟨ki_148_20, ⟨kbadG, ⟨ki_148_22, trivial⟩⟩⟩⟩⟩⟩⟩, trivial⟩⟩)
set_option maxRecDepth 20000 in
theorem d_149_0 : decode (js_b 149) 0 = .ok (.aload_n 0, 1) := by decide +kernel
set_option maxRecDepth 20000 in
theorem d_149_1 : decode (js_b 149) 1 = .ok (.iload_n 1, 1) := by decide +kernel
set_option maxRecDepth 20000 in
theorem d_149_2 : decode (js_b 149) 2 = .ok (.invokevirtual 75, 3) := by decide +kernel
set_option maxRecDepth 20000 in
theorem d_149_5 : decode (js_b 149) 5 = .ok (.ireturn, 1) := by decide +kernel
set_option maxRecDepth 20000 in
theorem d_149_6 : decode (js_b 149) 6 = .ok (.astore_n 2, 1) := by decide +kernel
set_option maxRecDepth 20000 in
theorem d_149_7 : decode (js_b 149) 7 = .ok (.bipush (-13), 2) := by decide +kernel
set_option maxRecDepth 20000 in
theorem d_149_9 : decode (js_b 149) 9 = .ok (.ireturn, 1) := by decide +kernel
theorem ki_149_9 : js_OkG 149 9 (o_rI) := og_rI rfl d_149_9
theorem ki_149_7 : js_OkG 149 7 (o_ic (-13) 9) := js_St.okG (st_bipush rfl d_149_7) (fun _ _ _ _ _ => rfl)
theorem ki_149_6 : js_OkG 149 6 (o_aj 2 7) := og_aj1 rfl rfl rfl (Nat.le_of_ble_eq_true rfl) d_149_6
theorem ki_149_5 : js_OkG 149 5 (o_rI) := og_rI rfl d_149_5
theorem ki_149_2 : js_OkG 149 2 (o_hI 88 2 8 [("java/util/NoSuchElementException", 6)] 5) := og_hI (site_V kk_149_88 (by decide) kw_702 kw_703 kw_704 (fun t ht => by cases ht; exact Or.inl ⟨by decide, _, rfl, rfl⟩) d_149_2) rfl rfl ⟨⟨by decide +kernel, by decide, rfl, rfl⟩, kw_449, kn_321, by decide +kernel, trivial⟩
theorem ki_149_1 : js_OkG 149 1 (o_il 1 2) := js_St.okG (st_iloadn rfl d_149_1) (fun _ _ _ _ _ => rfl)
theorem ki_149_0 : js_OkG 149 0 (o_al 0 1) := js_St.okG (st_aloadn rfl d_149_0) (fun _ _ _ _ _ => rfl)
set_option maxRecDepth 20000 in
theorem mk_149 : js_mokG 149 := jk_tab (fun _ => js_St.okG st_bad (fun _ _ _ _ _ => rfl)) (show jk_all (js_OkG 149) 0 tb_149 from ⟨⟨ki_149_0, ⟨ki_149_1, ⟨ki_149_2, ⟨kbadG, ⟨kbadG, ⟨ki_149_5, ⟨ki_149_6, ⟨ki_149_7, ⟨kbadG, ⟨ki_149_9, trivial⟩⟩⟩⟩⟩⟩⟩⟩⟩⟩, trivial⟩)
set_option maxRecDepth 20000 in
theorem d_150_0 : decode (js_b 150) 0 = .ok (.aload_n 0, 1) := by decide +kernel
set_option maxRecDepth 20000 in
theorem d_150_1 : decode (js_b 150) 1 = .ok (.iload_n 1, 1) := by decide +kernel
set_option maxRecDepth 20000 in
theorem d_150_2 : decode (js_b 150) 2 = .ok (.iload_n 2, 1) := by decide +kernel
set_option maxRecDepth 20000 in
theorem d_150_3 : decode (js_b 150) 3 = .ok (.invokevirtual 78, 3) := by decide +kernel
set_option maxRecDepth 20000 in
theorem d_150_6 : decode (js_b 150) 6 = .ok (.ireturn, 1) := by decide +kernel
set_option maxRecDepth 20000 in
theorem d_150_7 : decode (js_b 150) 7 = .ok (.astore_n 3, 1) := by decide +kernel
set_option maxRecDepth 20000 in
theorem d_150_8 : decode (js_b 150) 8 = .ok (.bipush (-11), 2) := by decide +kernel
set_option maxRecDepth 20000 in
theorem d_150_10 : decode (js_b 150) 10 = .ok (.ireturn, 1) := by decide +kernel
set_option maxRecDepth 20000 in
theorem d_150_11 : decode (js_b 150) 11 = .ok (.astore_n 3, 1) := by decide +kernel
set_option maxRecDepth 20000 in
theorem d_150_12 : decode (js_b 150) 12 = .ok (.bipush (-15), 2) := by decide +kernel
set_option maxRecDepth 20000 in
theorem d_150_14 : decode (js_b 150) 14 = .ok (.ireturn, 1) := by decide +kernel
theorem ki_150_14 : js_OkG 150 14 (o_rI) := og_rI rfl d_150_14
theorem ki_150_12 : js_OkG 150 12 (o_ic (-15) 14) := js_St.okG (st_bipush rfl d_150_12) (fun _ _ _ _ _ => rfl)
theorem ki_150_11 : js_OkG 150 11 (o_aj 3 12) := og_aj1 rfl rfl rfl (Nat.le_of_ble_eq_true rfl) d_150_11
theorem ki_150_10 : js_OkG 150 10 (o_rI) := og_rI rfl d_150_10
theorem ki_150_8 : js_OkG 150 8 (o_ic (-11) 10) := js_St.okG (st_bipush rfl d_150_8) (fun _ _ _ _ _ => rfl)
theorem ki_150_7 : js_OkG 150 7 (o_aj 3 8) := og_aj1 rfl rfl rfl (Nat.le_of_ble_eq_true rfl) d_150_7
theorem ki_150_6 : js_OkG 150 6 (o_rI) := og_rI rfl d_150_6
theorem ki_150_3 : js_OkG 150 3 (o_hI 89 3 8 [("java/lang/IndexOutOfBoundsException", 7), ("java/lang/UnsupportedOperationException", 11)] 6) := og_hI (site_V kk_150_89 (by decide) kw_794 kw_795 kw_796 (fun t ht => by cases ht; exact Or.inl ⟨by decide, _, rfl, rfl⟩) d_150_3) rfl rfl ⟨⟨by decide +kernel, by decide, rfl, rfl⟩, kw_469, kn_393, by decide +kernel, ⟨⟨by decide +kernel, by decide, rfl, rfl⟩, kw_490, kn_525, by decide +kernel, trivial⟩⟩
theorem ki_150_2 : js_OkG 150 2 (o_il 2 3) := js_St.okG (st_iloadn rfl d_150_2) (fun _ _ _ _ _ => rfl)
theorem ki_150_1 : js_OkG 150 1 (o_il 1 2) := js_St.okG (st_iloadn rfl d_150_1) (fun _ _ _ _ _ => rfl)
theorem ki_150_0 : js_OkG 150 0 (o_al 0 1) := js_St.okG (st_aloadn rfl d_150_0) (fun _ _ _ _ _ => rfl)
set_option maxRecDepth 20000 in
theorem mk_150 : js_mokG 150 := jk_tab (fun _ => js_St.okG st_bad (fun _ _ _ _ _ => rfl)) (show jk_all (js_OkG 150) 0 tb_150 from ⟨⟨ki_150_0, ⟨ki_150_1, ⟨ki_150_2, ⟨ki_150_3, ⟨kbadG, ⟨kbadG, ⟨ki_150_6, ⟨ki_150_7, ⟨ki_150_8, ⟨kbadG, ⟨ki_150_10, ⟨ki_150_11, ⟨ki_150_12, ⟨kbadG, ⟨ki_150_14, trivial⟩⟩⟩⟩⟩⟩⟩⟩⟩⟩⟩⟩⟩⟩⟩, trivial⟩)
set_option maxRecDepth 20000 in
theorem d_151_0 : decode (js_b 151) 0 = .ok (.aload_n 0, 1) := by decide +kernel
set_option maxRecDepth 20000 in
theorem d_151_1 : decode (js_b 151) 1 = .ok (.iload_n 1, 1) := by decide +kernel
set_option maxRecDepth 20000 in
theorem d_151_2 : decode (js_b 151) 2 = .ok (.iload_n 2, 1) := by decide +kernel
set_option maxRecDepth 20000 in
theorem d_151_3 : decode (js_b 151) 3 = .ok (.iload_n 3, 1) := by decide +kernel
set_option maxRecDepth 20000 in
theorem d_151_4 : decode (js_b 151) 4 = .ok (.iload 4, 2) := by decide +kernel
set_option maxRecDepth 20000 in
theorem d_151_6 : decode (js_b 151) 6 = .ok (.invokevirtual 81, 3) := by decide +kernel
set_option maxRecDepth 20000 in
theorem d_151_9 : decode (js_b 151) 9 = .ok (.ireturn, 1) := by decide +kernel
set_option maxRecDepth 20000 in
theorem d_151_10 : decode (js_b 151) 10 = .ok (.astore 5, 2) := by decide +kernel
set_option maxRecDepth 20000 in
theorem d_151_12 : decode (js_b 151) 12 = .ok (.bipush (-113), 2) := by decide +kernel
set_option maxRecDepth 20000 in
theorem d_151_14 : decode (js_b 151) 14 = .ok (.ireturn, 1) := by decide +kernel
set_option maxRecDepth 20000 in
theorem d_151_15 : decode (js_b 151) 15 = .ok (.astore 5, 2) := by decide +kernel
set_option maxRecDepth 20000 in
theorem d_151_17 : decode (js_b 151) 17 = .ok (.bipush (-111), 2) := by decide +kernel
set_option maxRecDepth 20000 in
theorem d_151_19 : decode (js_b 151) 19 = .ok (.ireturn, 1) := by decide +kernel
set_option maxRecDepth 20000 in
theorem d_151_20 : decode (js_b 151) 20 = .ok (.astore 5, 2) := by decide +kernel
set_option maxRecDepth 20000 in
theorem d_151_22 : decode (js_b 151) 22 = .ok (.bipush (-112), 2) := by decide +kernel
set_option maxRecDepth 20000 in
theorem d_151_24 : decode (js_b 151) 24 = .ok (.ireturn, 1) := by decide +kernel
set_option maxRecDepth 20000 in
theorem d_151_25 : decode (js_b 151) 25 = .ok (.astore 5, 2) := by decide +kernel
set_option maxRecDepth 20000 in
theorem d_151_27 : decode (js_b 151) 27 = .ok (.bipush (-114), 2) := by decide +kernel
set_option maxRecDepth 20000 in
theorem d_151_29 : decode (js_b 151) 29 = .ok (.ireturn, 1) := by decide +kernel
set_option maxRecDepth 20000 in
theorem d_151_30 : decode (js_b 151) 30 = .ok (.astore 5, 2) := by decide +kernel
set_option maxRecDepth 20000 in
theorem d_151_32 : decode (js_b 151) 32 = .ok (.bipush (-115), 2) := by decide +kernel
set_option maxRecDepth 20000 in
theorem d_151_34 : decode (js_b 151) 34 = .ok (.ireturn, 1) := by decide +kernel
theorem ki_151_15 : js_OkG 151 15 (o_aj 5 17) := og_aj2 rfl rfl (Nat.le_of_ble_eq_true rfl) d_151_15
theorem ki_151_14 : js_OkG 151 14 (o_rI) := og_rI rfl d_151_14
theorem ki_151_12 : js_OkG 151 12 (o_ic (-113) 14) := js_St.okG (st_bipush rfl d_151_12) (fun _ _ _ _ _ => rfl)
theorem ki_151_10 : js_OkG 151 10 (o_aj 5 12) := og_aj2 rfl rfl (Nat.le_of_ble_eq_true rfl) d_151_10
theorem ki_151_9 : js_OkG 151 9 (o_rI) := og_rI rfl d_151_9
theorem ki_151_6 : js_OkG 151 6 (o_hI 90 5 8 [("java/util/NoSuchElementException", 10), ("java/lang/IndexOutOfBoundsException", 15), ("java/lang/IllegalArgumentException", 20), ("java/lang/IllegalStateException", 25), ("java/lang/UnsupportedOperationException", 30)] 9) := og_hI (site_V kk_151_90 (by decide) kw_913 kw_914 kw_915 (fun t ht => by cases ht; exact Or.inl ⟨by decide, _, rfl, rfl⟩) d_151_6) rfl rfl ⟨⟨by decide +kernel, by decide, rfl, rfl⟩, kw_449, kn_321, by decide +kernel, ⟨⟨by decide +kernel, by decide, rfl, rfl⟩, kw_469, kn_393, by decide +kernel, ⟨⟨by decide +kernel, by decide, rfl, rfl⟩, kw_273, kn_409, by decide +kernel, ⟨⟨by decide +kernel, by decide, rfl, rfl⟩, kw_274, kn_425, by decide +kernel, ⟨⟨by decide +kernel, by decide, rfl, rfl⟩, kw_490, kn_525, by decide +kernel, trivial⟩⟩⟩⟩⟩
theorem ki_151_4 : js_OkG 151 4 (o_il 4 6) := js_St.okG (st_iload d_151_4) (fun _ _ _ _ _ => rfl)
theorem ki_151_3 : js_OkG 151 3 (o_il 3 4) := js_St.okG (st_iloadn rfl d_151_3) (fun _ _ _ _ _ => rfl)
theorem ki_151_2 : js_OkG 151 2 (o_il 2 3) := js_St.okG (st_iloadn rfl d_151_2) (fun _ _ _ _ _ => rfl)
theorem ki_151_1 : js_OkG 151 1 (o_il 1 2) := js_St.okG (st_iloadn rfl d_151_1) (fun _ _ _ _ _ => rfl)
theorem ki_151_0 : js_OkG 151 0 (o_al 0 1) := js_St.okG (st_aloadn rfl d_151_0) (fun _ _ _ _ _ => rfl)
theorem ki_151_30 : js_OkG 151 30 (o_aj 5 32) := og_aj2 rfl rfl (Nat.le_of_ble_eq_true rfl) d_151_30
theorem ki_151_29 : js_OkG 151 29 (o_rI) := og_rI rfl d_151_29
theorem ki_151_27 : js_OkG 151 27 (o_ic (-114) 29) := js_St.okG (st_bipush rfl d_151_27) (fun _ _ _ _ _ => rfl)
theorem ki_151_25 : js_OkG 151 25 (o_aj 5 27) := og_aj2 rfl rfl (Nat.le_of_ble_eq_true rfl) d_151_25
theorem ki_151_24 : js_OkG 151 24 (o_rI) := og_rI rfl d_151_24
theorem ki_151_22 : js_OkG 151 22 (o_ic (-112) 24) := js_St.okG (st_bipush rfl d_151_22) (fun _ _ _ _ _ => rfl)
theorem ki_151_20 : js_OkG 151 20 (o_aj 5 22) := og_aj2 rfl rfl (Nat.le_of_ble_eq_true rfl) d_151_20
theorem ki_151_19 : js_OkG 151 19 (o_rI) := og_rI rfl d_151_19
theorem ki_151_17 : js_OkG 151 17 (o_ic (-111) 19) := js_St.okG (st_bipush rfl d_151_17) (fun _ _ _ _ _ => rfl)
theorem ki_151_34 : js_OkG 151 34 (o_rI) := og_rI rfl d_151_34
theorem ki_151_32 : js_OkG 151 32 (o_ic (-115) 34) := js_St.okG (st_bipush rfl d_151_32) (fun _ _ _ _ _ => rfl)
set_option maxRecDepth 20000 in
theorem mk_151 : js_mokG 151 := jk_tab (fun _ => js_St.okG st_bad (fun _ _ _ _ _ => rfl)) (show jk_all (js_OkG 151) 0 tb_151 from ⟨⟨ki_151_0, ⟨ki_151_1, ⟨ki_151_2, ⟨ki_151_3, ⟨ki_151_4, ⟨kbadG, ⟨ki_151_6, ⟨kbadG, ⟨kbadG, ⟨ki_151_9, ⟨ki_151_10, ⟨kbadG, ⟨ki_151_12, ⟨kbadG, ⟨ki_151_14, ⟨ki_151_15, trivial⟩⟩⟩⟩⟩⟩⟩⟩⟩⟩⟩⟩⟩⟩⟩⟩, ⟨⟨kbadG, ⟨ki_151_17, ⟨kbadG, ⟨ki_151_19, ⟨ki_151_20, ⟨kbadG, ⟨ki_151_22, ⟨kbadG, ⟨ki_151_24, ⟨ki_151_25, ⟨kbadG, ⟨ki_151_27, ⟨kbadG, ⟨ki_151_29, ⟨ki_151_30, ⟨kbadG, trivial⟩⟩⟩⟩⟩⟩⟩⟩⟩⟩⟩⟩⟩⟩⟩⟩, ⟨⟨ki_151_32, ⟨kbadG, ⟨ki_151_34, trivial⟩⟩⟩, trivial⟩⟩⟩)
set_option maxRecDepth 20000 in
theorem d_152_0 : decode (js_b 152) 0 = .ok (.aload_n 0, 1) := by decide +kernel
set_option maxRecDepth 20000 in
theorem d_152_1 : decode (js_b 152) 1 = .ok (.iload_n 1, 1) := by decide +kernel
set_option maxRecDepth 20000 in
theorem d_152_2 : decode (js_b 152) 2 = .ok (.iload_n 2, 1) := by decide +kernel
set_option maxRecDepth 20000 in
theorem d_152_3 : decode (js_b 152) 3 = .ok (.iload_n 3, 1) := by decide +kernel
set_option maxRecDepth 20000 in
theorem d_152_4 : decode (js_b 152) 4 = .ok (.invokevirtual 85, 3) := by decide +kernel
set_option maxRecDepth 20000 in
theorem d_152_7 : decode (js_b 152) 7 = .ok (.ireturn, 1) := by decide +kernel
set_option maxRecDepth 20000 in
theorem d_152_8 : decode (js_b 152) 8 = .ok (.astore 4, 2) := by decide +kernel
set_option maxRecDepth 20000 in
theorem d_152_10 : decode (js_b 152) 10 = .ok (.bipush (-13), 2) := by decide +kernel
set_option maxRecDepth 20000 in
theorem d_152_12 : decode (js_b 152) 12 = .ok (.ireturn, 1) := by decide +kernel
set_option maxRecDepth 20000 in
theorem d_152_13 : decode (js_b 152) 13 = .ok (.astore 4, 2) := by decide +kernel
set_option maxRecDepth 20000 in
theorem d_152_15 : decode (js_b 152) 15 = .ok (.bipush (-11), 2) := by decide +kernel
set_option maxRecDepth 20000 in
theorem d_152_17 : decode (js_b 152) 17 = .ok (.ireturn, 1) := by decide +kernel
set_option maxRecDepth 20000 in
theorem d_152_18 : decode (js_b 152) 18 = .ok (.astore 4, 2) := by decide +kernel
set_option maxRecDepth 20000 in
theorem d_152_20 : decode (js_b 152) 20 = .ok (.bipush (-14), 2) := by decide +kernel
set_option maxRecDepth 20000 in
theorem d_152_22 : decode (js_b 152) 22 = .ok (.ireturn, 1) := by decide +kernel
set_option maxRecDepth 20000 in
theorem d_152_23 : decode (js_b 152) 23 = .ok (.astore 4, 2) := by decide +kernel
set_option maxRecDepth 20000 in
theorem d_152_25 : decode (js_b 152) 25 = .ok (.bipush (-15), 2) := by decide +kernel
set_option maxRecDepth 20000 in
theorem d_152_27 : decode (js_b 152) 27 = .ok (.ireturn, 1) := by decide +kernel
theorem ki_152_15 : js_OkG 152 15 (o_ic (-11) 17) := js_St.okG (st_bipush rfl d_152_15) (fun _ _ _ _ _ => rfl)
theorem ki_152_13 : js_OkG 152 13 (o_aj 4 15) := og_aj2 rfl rfl (Nat.le_of_ble_eq_true rfl) d_152_13
theorem ki_152_12 : js_OkG 152 12 (o_rI) := og_rI rfl d_152_12
theorem ki_152_10 : js_OkG 152 10 (o_ic (-13) 12) := js_St.okG (st_bipush rfl d_152_10) (fun _ _ _ _ _ => rfl)
theorem ki_152_8 : js_OkG 152 8 (o_aj 4 10) := og_aj2 rfl rfl (Nat.le_of_ble_eq_true rfl) d_152_8
theorem ki_152_7 : js_OkG 152 7 (o_rI) := og_rI rfl d_152_7
theorem ki_152_4 : js_OkG 152 4 (o_hI 91 4 8 [("java/util/NoSuchElementException", 8), ("java/lang/IndexOutOfBoundsException", 13), ("java/lang/IllegalStateException", 18), ("java/lang/UnsupportedOperationException", 23)] 7) := og_hI (site_V kk_152_91 (by decide) kw_938 kw_939 kw_940 (fun t ht => by cases ht; exact Or.inl ⟨by decide, _, rfl, rfl⟩) d_152_4) rfl rfl ⟨⟨by decide +kernel, by decide, rfl, rfl⟩, kw_449, kn_321, by decide +kernel, ⟨⟨by decide +kernel, by decide, rfl, rfl⟩, kw_469, kn_393, by decide +kernel, ⟨⟨by decide +kernel, by decide, rfl, rfl⟩, kw_274, kn_425, by decide +kernel, ⟨⟨by decide +kernel, by decide, rfl, rfl⟩, kw_490, kn_525, by decide +kernel, trivial⟩⟩⟩⟩
theorem ki_152_3 : js_OkG 152 3 (o_il 3 4) := js_St.okG (st_iloadn rfl d_152_3) (fun _ _ _ _ _ => rfl)
theorem ki_152_2 : js_OkG 152 2 (o_il 2 3) := js_St.okG (st_iloadn rfl d_152_2) (fun _ _ _ _ _ => rfl)
theorem ki_152_1 : js_OkG 152 1 (o_il 1 2) := js_St.okG (st_iloadn rfl d_152_1) (fun _ _ _ _ _ => rfl)
theorem ki_152_0 : js_OkG 152 0 (o_al 0 1) := js_St.okG (st_aloadn rfl d_152_0) (fun _ _ _ _ _ => rfl)
theorem ki_152_27 : js_OkG 152 27 (o_rI) := og_rI rfl d_152_27
theorem ki_152_25 : js_OkG 152 25 (o_ic (-15) 27) := js_St.okG (st_bipush rfl d_152_25) (fun _ _ _ _ _ => rfl)
theorem ki_152_23 : js_OkG 152 23 (o_aj 4 25) := og_aj2 rfl rfl (Nat.le_of_ble_eq_true rfl) d_152_23
theorem ki_152_22 : js_OkG 152 22 (o_rI) := og_rI rfl d_152_22
theorem ki_152_20 : js_OkG 152 20 (o_ic (-14) 22) := js_St.okG (st_bipush rfl d_152_20) (fun _ _ _ _ _ => rfl)
theorem ki_152_18 : js_OkG 152 18 (o_aj 4 20) := og_aj2 rfl rfl (Nat.le_of_ble_eq_true rfl) d_152_18
theorem ki_152_17 : js_OkG 152 17 (o_rI) := og_rI rfl d_152_17
set_option maxRecDepth 20000 in
theorem mk_152 : js_mokG 152 := jk_tab (fun _ => js_St.okG st_bad (fun _ _ _ _ _ => rfl)) (show jk_all (js_OkG 152) 0 tb_152 from ⟨⟨ki_152_0, ⟨ki_152_1, ⟨ki_152_2, ⟨ki_152_3, ⟨ki_152_4, ⟨kbadG, ⟨kbadG, ⟨ki_152_7, ⟨ki_152_8, ⟨kbadG, ⟨ki_152_10, ⟨kbadG, ⟨ki_152_12, ⟨ki_152_13, ⟨kbadG, ⟨ki_152_15, trivial⟩⟩⟩⟩⟩⟩⟩⟩⟩⟩⟩⟩⟩⟩⟩⟩, ⟨⟨kbadG, ⟨ki_152_17, ⟨ki_152_18, ⟨kbadG, ⟨ki_152_20, ⟨kbadG, ⟨ki_152_22, ⟨ki_152_23, ⟨kbadG, ⟨ki_152_25, ⟨kbadG, ⟨ki_152_27, trivial⟩⟩⟩⟩⟩⟩⟩⟩⟩⟩⟩⟩, trivial⟩⟩)
set_option maxRecDepth 20000 in
theorem d_153_0 : decode (js_b 153) 0 = .ok (.aload_n 0, 1) := by decide +kernel
set_option maxRecDepth 20000 in
theorem d_153_1 : decode (js_b 153) 1 = .ok (.iload_n 1, 1) := by decide +kernel
set_option maxRecDepth 20000 in
theorem d_153_2 : decode (js_b 153) 2 = .ok (.iload_n 2, 1) := by decide +kernel
set_option maxRecDepth 20000 in
theorem d_153_3 : decode (js_b 153) 3 = .ok (.invokevirtual 88, 3) := by decide +kernel
set_option maxRecDepth 20000 in
theorem d_153_6 : decode (js_b 153) 6 = .ok (.ireturn, 1) := by decide +kernel
set_option maxRecDepth 20000 in
theorem d_153_7 : decode (js_b 153) 7 = .ok (.astore_n 3, 1) := by decide +kernel
set_option maxRecDepth 20000 in
theorem d_153_8 : decode (js_b 153) 8 = .ok (.bipush (-11), 2) := by decide +kernel
set_option maxRecDepth 20000 in
theorem d_153_10 : decode (js_b 153) 10 = .ok (.ireturn, 1) := by decide +kernel
set_option maxRecDepth 20000 in
theorem d_153_11 : decode (js_b 153) 11 = .ok (.astore_n 3, 1) := by decide +kernel
set_option maxRecDepth 20000 in
theorem d_153_12 : decode (js_b 153) 12 = .ok (.bipush (-15), 2) := by decide +kernel
set_option maxRecDepth 20000 in
theorem d_153_14 : decode (js_b 153) 14 = .ok (.ireturn, 1) := by decide +kernel
set_option maxRecDepth 20000 in
theorem d_153_15 : decode (js_b 153) 15 = .ok (.astore_n 3, 1) := by decide +kernel
set_option maxRecDepth 20000 in
theorem d_153_16 : decode (js_b 153) 16 = .ok (.bipush (-13), 2) := by decide +kernel
set_option maxRecDepth 20000 in
theorem d_153_18 : decode (js_b 153) 18 = .ok (.ireturn, 1) := by decide +kernel
theorem ki_153_15 : js_OkG 153 15 (o_aj 3 16) := og_aj1 rfl rfl rfl (Nat.le_of_ble_eq_true rfl) d_153_15
theorem ki_153_14 : js_OkG 153 14 (o_rI) := og_rI rfl d_153_14
theorem ki_153_12 : js_OkG 153 12 (o_ic (-15) 14) := js_St.okG (st_bipush rfl d_153_12) (fun _ _ _ _ _ => rfl)
theorem ki_153_11 : js_OkG 153 11 (o_aj 3 12) := og_aj1 rfl rfl rfl (Nat.le_of_ble_eq_true rfl) d_153_11
theorem ki_153_10 : js_OkG 153 10 (o_rI) := og_rI rfl d_153_10
theorem ki_153_8 : js_OkG 153 8 (o_ic (-11) 10) := js_St.okG (st_bipush rfl d_153_8) (fun _ _ _ _ _ => rfl)
theorem ki_153_7 : js_OkG 153 7 (o_aj 3 8) := og_aj1 rfl rfl rfl (Nat.le_of_ble_eq_true rfl) d_153_7
theorem ki_153_6 : js_OkG 153 6 (o_rI) := og_rI rfl d_153_6
theorem ki_153_3 : js_OkG 153 3 (o_hI 92 3 8 [("java/lang/IndexOutOfBoundsException", 7), ("java/lang/UnsupportedOperationException", 11), ("java/util/NoSuchElementException", 15)] 6) := og_hI (site_V kk_153_92 (by decide) kw_896 kw_897 kw_898 (fun t ht => by cases ht; exact Or.inl ⟨by decide, _, rfl, rfl⟩) d_153_3) rfl rfl ⟨⟨by decide +kernel, by decide, rfl, rfl⟩, kw_469, kn_393, by decide +kernel, ⟨⟨by decide +kernel, by decide, rfl, rfl⟩, kw_490, kn_525, by decide +kernel, ⟨⟨by decide +kernel, by decide, rfl, rfl⟩, kw_449, kn_321, by decide +kernel, trivial⟩⟩⟩
theorem ki_153_2 : js_OkG 153 2 (o_il 2 3) := js_St.okG (st_iloadn rfl d_153_2) (fun _ _ _ _ _ => rfl)
theorem ki_153_1 : js_OkG 153 1 (o_il 1 2) := js_St.okG (st_iloadn rfl d_153_1) (fun _ _ _ _ _ => rfl)
theorem ki_153_0 : js_OkG 153 0 (o_al 0 1) := js_St.okG (st_aloadn rfl d_153_0) (fun _ _ _ _ _ => rfl)
theorem ki_153_18 : js_OkG 153 18 (o_rI) := og_rI rfl d_153_18
theorem ki_153_16 : js_OkG 153 16 (o_ic (-13) 18) := js_St.okG (st_bipush rfl d_153_16) (fun _ _ _ _ _ => rfl)
set_option maxRecDepth 20000 in
theorem mk_153 : js_mokG 153 := jk_tab (fun _ => js_St.okG st_bad (fun _ _ _ _ _ => rfl)) (show jk_all (js_OkG 153) 0 tb_153 from ⟨⟨ki_153_0, ⟨ki_153_1, ⟨ki_153_2, ⟨ki_153_3, ⟨kbadG, ⟨kbadG, ⟨ki_153_6, ⟨ki_153_7, ⟨ki_153_8, ⟨kbadG, ⟨ki_153_10, ⟨ki_153_11, ⟨ki_153_12, ⟨kbadG, ⟨ki_153_14, ⟨ki_153_15, trivial⟩⟩⟩⟩⟩⟩⟩⟩⟩⟩⟩⟩⟩⟩⟩⟩, ⟨⟨ki_153_16, ⟨kbadG, ⟨ki_153_18, trivial⟩⟩⟩, trivial⟩⟩)
set_option maxRecDepth 20000 in
theorem d_154_0 : decode (js_b 154) 0 = .ok (.aload_n 0, 1) := by decide +kernel
set_option maxRecDepth 20000 in
theorem d_154_1 : decode (js_b 154) 1 = .ok (.iload_n 1, 1) := by decide +kernel
set_option maxRecDepth 20000 in
theorem d_154_2 : decode (js_b 154) 2 = .ok (.iload_n 2, 1) := by decide +kernel
set_option maxRecDepth 20000 in
theorem d_154_3 : decode (js_b 154) 3 = .ok (.iload_n 3, 1) := by decide +kernel
set_option maxRecDepth 20000 in
theorem d_154_4 : decode (js_b 154) 4 = .ok (.invokevirtual 91, 3) := by decide +kernel
set_option maxRecDepth 20000 in
theorem d_154_7 : decode (js_b 154) 7 = .ok (.ireturn, 1) := by decide +kernel
set_option maxRecDepth 20000 in
theorem d_154_8 : decode (js_b 154) 8 = .ok (.astore 4, 2) := by decide +kernel
set_option maxRecDepth 20000 in
theorem d_154_10 : decode (js_b 154) 10 = .ok (.bipush (-11), 2) := by decide +kernel
set_option maxRecDepth 20000 in
theorem d_154_12 : decode (js_b 154) 12 = .ok (.ireturn, 1) := by decide +kernel
set_option maxRecDepth 20000 in
theorem d_154_13 : decode (js_b 154) 13 = .ok (.astore 4, 2) := by decide +kernel
set_option maxRecDepth 20000 in
theorem d_154_15 : decode (js_b 154) 15 = .ok (.bipush (-15), 2) := by decide +kernel
set_option maxRecDepth 20000 in
theorem d_154_17 : decode (js_b 154) 17 = .ok (.ireturn, 1) := by decide +kernel
set_option maxRecDepth 20000 in
theorem d_154_18 : decode (js_b 154) 18 = .ok (.astore 4, 2) := by decide +kernel
set_option maxRecDepth 20000 in
theorem d_154_20 : decode (js_b 154) 20 = .ok (.bipush (-13), 2) := by decide +kernel
set_option maxRecDepth 20000 in
theorem d_154_22 : decode (js_b 154) 22 = .ok (.ireturn, 1) := by decide +kernel
theorem ki_154_15 : js_OkG 154 15 (o_ic (-15) 17) := js_St.okG (st_bipush rfl d_154_15) (fun _ _ _ _ _ => rfl)
theorem ki_154_13 : js_OkG 154 13 (o_aj 4 15) := og_aj2 rfl rfl (Nat.le_of_ble_eq_true rfl) d_154_13
theorem ki_154_12 : js_OkG 154 12 (o_rI) := og_rI rfl d_154_12
theorem ki_154_10 : js_OkG 154 10 (o_ic (-11) 12) := js_St.okG (st_bipush rfl d_154_10) (fun _ _ _ _ _ => rfl)
theorem ki_154_8 : js_OkG 154 8 (o_aj 4 10) := og_aj2 rfl rfl (Nat.le_of_ble_eq_true rfl) d_154_8
theorem ki_154_7 : js_OkG 154 7 (o_rI) := og_rI rfl d_154_7
theorem ki_154_4 : js_OkG 154 4 (o_hI 93 4 8 [("java/lang/IndexOutOfBoundsException", 8), ("java/lang/UnsupportedOperationException", 13), ("java/util/NoSuchElementException", 18)] 7) := og_hI (site_V kk_154_93 (by decide) kw_903 kw_904 kw_905 (fun t ht => by cases ht; exact Or.inl ⟨by decide, _, rfl, rfl⟩) d_154_4) rfl rfl ⟨⟨by decide +kernel, by decide, rfl, rfl⟩, kw_469, kn_393, by decide +kernel, ⟨⟨by decide +kernel, by decide, rfl, rfl⟩, kw_490, kn_525, by decide +kernel, ⟨⟨by decide +kernel, by decide, rfl, rfl⟩, kw_449, kn_321, by decide +kernel, trivial⟩⟩⟩
theorem ki_154_3 : js_OkG 154 3 (o_il 3 4) := js_St.okG (st_iloadn rfl d_154_3) (fun _ _ _ _ _ => rfl)
theorem ki_154_2 : js_OkG 154 2 (o_il 2 3) := js_St.okG (st_iloadn rfl d_154_2) (fun _ _ _ _ _ => rfl)
theorem ki_154_1 : js_OkG 154 1 (o_il 1 2) := js_St.okG (st_iloadn rfl d_154_1) (fun _ _ _ _ _ => rfl)
theorem ki_154_0 : js_OkG 154 0 (o_al 0 1) := js_St.okG (st_aloadn rfl d_154_0) (fun _ _ _ _ _ => rfl)
theorem ki_154_22 : js_OkG 154 22 (o_rI) := og_rI rfl d_154_22
theorem ki_154_20 : js_OkG 154 20 (o_ic (-13) 22) := js_St.okG (st_bipush rfl d_154_20) (fun _ _ _ _ _ => rfl)
theorem ki_154_18 : js_OkG 154 18 (o_aj 4 20) := og_aj2 rfl rfl (Nat.le_of_ble_eq_true rfl) d_154_18
theorem ki_154_17 : js_OkG 154 17 (o_rI) := og_rI rfl d_154_17
set_option maxRecDepth 20000 in
theorem mk_154 : js_mokG 154 := jk_tab (fun _ => js_St.okG st_bad (fun _ _ _ _ _ => rfl)) (show jk_all (js_OkG 154) 0 tb_154 from ⟨⟨ki_154_0, ⟨ki_154_1, ⟨ki_154_2, ⟨ki_154_3, ⟨ki_154_4, ⟨kbadG, ⟨kbadG, ⟨ki_154_7, ⟨ki_154_8, ⟨kbadG, ⟨ki_154_10, ⟨kbadG, ⟨ki_154_12, ⟨ki_154_13, ⟨kbadG, ⟨ki_154_15, trivial⟩⟩⟩⟩⟩⟩⟩⟩⟩⟩⟩⟩⟩⟩⟩⟩, ⟨⟨kbadG, ⟨ki_154_17, ⟨ki_154_18, ⟨kbadG, ⟨ki_154_20, ⟨kbadG, ⟨ki_154_22, trivial⟩⟩⟩⟩⟩⟩⟩, trivial⟩⟩)
set_option maxRecDepth 20000 in
theorem d_155_0 : decode (js_b 155) 0 = .ok (.aload_n 0, 1) := by decide +kernel
set_option maxRecDepth 20000 in
theorem d_155_1 : decode (js_b 155) 1 = .ok (.iload_n 1, 1) := by decide +kernel
set_option maxRecDepth 20000 in
theorem d_155_2 : decode (js_b 155) 2 = .ok (.invokevirtual 94, 3) := by decide +kernel
set_option maxRecDepth 20000 in
theorem d_155_5 : decode (js_b 155) 5 = .ok (.ireturn, 1) := by decide +kernel
set_option maxRecDepth 20000 in
theorem d_155_6 : decode (js_b 155) 6 = .ok (.astore_n 2, 1) := by decide +kernel
set_option maxRecDepth 20000 in
theorem d_155_7 : decode (js_b 155) 7 = .ok (.bipush (-13), 2) := by decide +kernel
set_option maxRecDepth 20000 in
theorem d_155_9 : decode (js_b 155) 9 = .ok (.ireturn, 1) := by decide +kernel
theorem ki_155_9 : js_OkG 155 9 (o_rI) := og_rI rfl d_155_9
theorem ki_155_7 : js_OkG 155 7 (o_ic (-13) 9) := js_St.okG (st_bipush rfl d_155_7) (fun _ _ _ _ _ => rfl)
theorem ki_155_6 : js_OkG 155 6 (o_aj 2 7) := og_aj1 rfl rfl rfl (Nat.le_of_ble_eq_true rfl) d_155_6
theorem ki_155_5 : js_OkG 155 5 (o_rI) := og_rI rfl d_155_5
theorem ki_155_2 : js_OkG 155 2 (o_hI 96 2 8 [("java/util/NoSuchElementException", 6)] 5) := og_hI (site_V kk_155_96 (by decide) kw_710 kw_711 kw_712 (fun t ht => by cases ht; exact Or.inl ⟨by decide, _, rfl, rfl⟩) d_155_2) rfl rfl ⟨⟨by decide +kernel, by decide, rfl, rfl⟩, kw_449, kn_321, by decide +kernel, trivial⟩
theorem ki_155_1 : js_OkG 155 1 (o_il 1 2) := js_St.okG (st_iloadn rfl d_155_1) (fun _ _ _ _ _ => rfl)
theorem ki_155_0 : js_OkG 155 0 (o_al 0 1) := js_St.okG (st_aloadn rfl d_155_0) (fun _ _ _ _ _ => rfl)
set_option maxRecDepth 20000 in
theorem mk_155 : js_mokG 155 := jk_tab (fun _ => js_St.okG st_bad (fun _ _ _ _ _ => rfl)) (show jk_all (js_OkG 155) 0 tb_155 from ⟨⟨ki_155_0, ⟨ki_155_1, ⟨ki_155_2, ⟨kbadG, ⟨kbadG, ⟨ki_155_5, ⟨ki_155_6, ⟨ki_155_7, ⟨kbadG, ⟨ki_155_9, trivial⟩⟩⟩⟩⟩⟩⟩⟩⟩⟩, trivial⟩)
set_option maxRecDepth 20000 in
theorem d_156_0 : decode (js_b 156) 0 = .ok (.aload_n 0, 1) := by decide +kernel
set_option maxRecDepth 20000 in
theorem d_156_1 : decode (js_b 156) 1 = .ok (.invokevirtual 97, 3) := by decide +kernel
set_option maxRecDepth 20000 in
theorem d_156_4 : decode (js_b 156) 4 = .ok (.ireturn, 1) := by decide +kernel
set_option maxRecDepth 20000 in
theorem d_156_5 : decode (js_b 156) 5 = .ok (.astore_n 1, 1) := by decide +kernel
set_option maxRecDepth 20000 in
theorem d_156_6 : decode (js_b 156) 6 = .ok (.bipush (-13), 2) := by decide +kernel
set_option maxRecDepth 20000 in
theorem d_156_8 : decode (js_b 156) 8 = .ok (.ireturn, 1) := by decide +kernel
theorem ki_156_8 : js_OkG 156 8 (o_rI) := og_rI rfl d_156_8
theorem ki_156_6 : js_OkG 156 6 (o_ic (-13) 8) := js_St.okG (st_bipush rfl d_156_6) (fun _ _ _ _ _ => rfl)
theorem ki_156_5 : js_OkG 156 5 (o_aj 1 6) := og_aj1 rfl rfl rfl (Nat.le_of_ble_eq_true rfl) d_156_5
theorem ki_156_4 : js_OkG 156 4 (o_rI) := og_rI rfl d_156_4
theorem ki_156_1 : js_OkG 156 1 (o_hI 98 1 8 [("java/util/NoSuchElementException", 5)] 4) := og_hI (site_V kk_156_98 (by decide) kw_984 kw_985 kw_986 (fun t ht => by cases ht; exact Or.inl ⟨by decide, _, rfl, rfl⟩) d_156_1) rfl rfl ⟨⟨by decide +kernel, by decide, rfl, rfl⟩, kw_449, kn_321, by decide +kernel, trivial⟩
theorem ki_156_0 : js_OkG 156 0 (o_al 0 1) := js_St.okG (st_aloadn rfl d_156_0) (fun _ _ _ _ _ => rfl)
set_option maxRecDepth 20000 in
theorem mk_156 : js_mokG 156 := jk_tab (fun _ => js_St.okG st_bad (fun _ _ _ _ _ => rfl)) (show jk_all (js_OkG 156) 0 tb_156 from ⟨⟨ki_156_0, ⟨ki_156_1, ⟨kbadG, ⟨kbadG, ⟨ki_156_4, ⟨ki_156_5, ⟨ki_156_6, ⟨kbadG, ⟨ki_156_8, trivial⟩⟩⟩⟩⟩⟩⟩⟩⟩, trivial⟩)
set_option maxRecDepth 20000 in
theorem d_157_0 : decode (js_b 157) 0 = .ok (.aload_n 0, 1) := by decide +kernel
set_option maxRecDepth 20000 in
theorem d_157_1 : decode (js_b 157) 1 = .ok (.iload_n 1, 1) := by decide +kernel
set_option maxRecDepth 20000 in
theorem d_157_2 : decode (js_b 157) 2 = .ok (.invokevirtual 101, 3) := by decide +kernel
set_option maxRecDepth 20000 in
theorem d_157_5 : decode (js_b 157) 5 = .ok (.ireturn, 1) := by decide +kernel
set_option maxRecDepth 20000 in
theorem d_157_6 : decode (js_b 157) 6 = .ok (.astore_n 2, 1) := by decide +kernel
set_option maxRecDepth 20000 in
theorem d_157_7 : decode (js_b 157) 7 = .ok (.bipush (-11), 2) := by decide +kernel
set_option maxRecDepth 20000 in
theorem d_157_9 : decode (js_b 157) 9 = .ok (.ireturn, 1) := by decide +kernel
theorem ki_157_9 : js_OkG 157 9 (o_rI) := og_rI rfl d_157_9
theorem ki_157_7 : js_OkG 157 7 (o_ic (-11) 9) := js_St.okG (st_bipush rfl d_157_7) (fun _ _ _ _ _ => rfl)
theorem ki_157_6 : js_OkG 157 6 (o_aj 2 7) := og_aj1 rfl rfl rfl (Nat.le_of_ble_eq_true rfl) d_157_6
theorem ki_157_5 : js_OkG 157 5 (o_rI) := og_rI rfl d_157_5
theorem ki_157_2 : js_OkG 157 2 (o_hI 103 2 8 [("java/lang/IndexOutOfBoundsException", 6)] 5) := og_hI (site_V kk_157_103 (by decide) kw_1262 kw_1263 kw_1264 (fun t ht => by cases ht; exact Or.inl ⟨by decide, _, rfl, rfl⟩) d_157_2) rfl rfl ⟨⟨by decide +kernel, by decide, rfl, rfl⟩, kw_469, kn_393, by decide +kernel, trivial⟩
theorem ki_157_1 : js_OkG 157 1 (o_il 1 2) := js_St.okG (st_iloadn rfl d_157_1) (fun _ _ _ _ _ => rfl)
theorem ki_157_0 : js_OkG 157 0 (o_al 0 1) := js_St.okG (st_aloadn rfl d_157_0) (fun _ _ _ _ _ => rfl)
set_option maxRecDepth 20000 in
theorem mk_157 : js_mokG 157 := jk_tab (fun _ => js_St.okG st_bad (fun _ _ _ _ _ => rfl)) (show jk_all (js_OkG 157) 0 tb_157 from ⟨⟨ki_157_0, ⟨ki_157_1, ⟨ki_157_2, ⟨kbadG, ⟨kbadG, ⟨ki_157_5, ⟨ki_157_6, ⟨ki_157_7, ⟨kbadG, ⟨ki_157_9, trivial⟩⟩⟩⟩⟩⟩⟩⟩⟩⟩, trivial⟩)
set_option maxRecDepth 20000 in
theorem d_158_0 : decode (js_b 158) 0 = .ok (.aload_n 0, 1) := by decide +kernel
set_option maxRecDepth 20000 in
theorem d_158_1 : decode (js_b 158) 1 = .ok (.iload_n 1, 1) := by decide +kernel
set_option maxRecDepth 20000 in
theorem d_158_2 : decode (js_b 158) 2 = .ok (.invokevirtual 104, 3) := by decide +kernel
set_option maxRecDepth 20000 in
theorem d_158_5 : decode (js_b 158) 5 = .ok (.ireturn, 1) := by decide +kernel
set_option maxRecDepth 20000 in
theorem d_158_6 : decode (js_b 158) 6 = .ok (.astore_n 2, 1) := by decide +kernel
set_option maxRecDepth 20000 in
theorem d_158_7 : decode (js_b 158) 7 = .ok (.bipush (-13), 2) := by decide +kernel
set_option maxRecDepth 20000 in
theorem d_158_9 : decode (js_b 158) 9 = .ok (.ireturn, 1) := by decide +kernel
theorem ki_158_9 : js_OkG 158 9 (o_rI) := og_rI rfl d_158_9
theorem ki_158_7 : js_OkG 158 7 (o_ic (-13) 9) := js_St.okG (st_bipush rfl d_158_7) (fun _ _ _ _ _ => rfl)
theorem ki_158_6 : js_OkG 158 6 (o_aj 2 7) := og_aj1 rfl rfl rfl (Nat.le_of_ble_eq_true rfl) d_158_6
theorem ki_158_5 : js_OkG 158 5 (o_rI) := og_rI rfl d_158_5
theorem ki_158_2 : js_OkG 158 2 (o_hI 104 2 8 [("java/util/NoSuchElementException", 6)] 5) := og_hI (site_V kk_158_104 (by decide) kw_1301 kw_1302 kw_1303 (fun t ht => by cases ht; exact Or.inl ⟨by decide, _, rfl, rfl⟩) d_158_2) rfl rfl ⟨⟨by decide +kernel, by decide, rfl, rfl⟩, kw_449, kn_321, by decide +kernel, trivial⟩
theorem ki_158_1 : js_OkG 158 1 (o_il 1 2) := js_St.okG (st_iloadn rfl d_158_1) (fun _ _ _ _ _ => rfl)
theorem ki_158_0 : js_OkG 158 0 (o_al 0 1) := js_St.okG (st_aloadn rfl d_158_0) (fun _ _ _ _ _ => rfl)
set_option maxRecDepth 20000 in
theorem mk_158 : js_mokG 158 := jk_tab (fun _ => js_St.okG st_bad (fun _ _ _ _ _ => rfl)) (show jk_all (js_OkG 158) 0 tb_158 from ⟨⟨ki_158_0, ⟨ki_158_1, ⟨ki_158_2, ⟨kbadG, ⟨kbadG, ⟨ki_158_5, ⟨ki_158_6, ⟨ki_158_7, ⟨kbadG, ⟨ki_158_9, trivial⟩⟩⟩⟩⟩⟩⟩⟩⟩⟩, trivial⟩)
set_option maxRecDepth 20000 in
theorem d_159_0 : decode (js_b 159) 0 = .ok (.aload_n 0, 1) := by decide +kernel
set_option maxRecDepth 20000 in
theorem d_159_1 : decode (js_b 159) 1 = .ok (.iload_n 1, 1) := by decide +kernel
set_option maxRecDepth 20000 in
theorem d_159_2 : decode (js_b 159) 2 = .ok (.invokevirtual 107, 3) := by decide +kernel
set_option maxRecDepth 20000 in
theorem d_159_5 : decode (js_b 159) 5 = .ok (.ireturn, 1) := by decide +kernel
set_option maxRecDepth 20000 in
theorem d_159_6 : decode (js_b 159) 6 = .ok (.astore_n 2, 1) := by decide +kernel
set_option maxRecDepth 20000 in
theorem d_159_7 : decode (js_b 159) 7 = .ok (.bipush (-11), 2) := by decide +kernel
set_option maxRecDepth 20000 in
theorem d_159_9 : decode (js_b 159) 9 = .ok (.ireturn, 1) := by decide +kernel
theorem ki_159_9 : js_OkG 159 9 (o_rI) := og_rI rfl d_159_9
theorem ki_159_7 : js_OkG 159 7 (o_ic (-11) 9) := js_St.okG (st_bipush rfl d_159_7) (fun _ _ _ _ _ => rfl)
theorem ki_159_6 : js_OkG 159 6 (o_aj 2 7) := og_aj1 rfl rfl rfl (Nat.le_of_ble_eq_true rfl) d_159_6
theorem ki_159_5 : js_OkG 159 5 (o_rI) := og_rI rfl d_159_5
theorem ki_159_2 : js_OkG 159 2 (o_hI 105 2 8 [("java/lang/IndexOutOfBoundsException", 6)] 5) := og_hI (site_V kk_159_105 (by decide) kw_1277 kw_1278 kw_1279 (fun t ht => by cases ht; exact Or.inl ⟨by decide, _, rfl, rfl⟩) d_159_2) rfl rfl ⟨⟨by decide +kernel, by decide, rfl, rfl⟩, kw_469, kn_393, by decide +kernel, trivial⟩
theorem ki_159_1 : js_OkG 159 1 (o_il 1 2) := js_St.okG (st_iloadn rfl d_159_1) (fun _ _ _ _ _ => rfl)
theorem ki_159_0 : js_OkG 159 0 (o_al 0 1) := js_St.okG (st_aloadn rfl d_159_0) (fun _ _ _ _ _ => rfl)
set_option maxRecDepth 20000 in
theorem mk_159 : js_mokG 159 := jk_tab (fun _ => js_St.okG st_bad (fun _ _ _ _ _ => rfl)) (show jk_all (js_OkG 159) 0 tb_159 from ⟨⟨ki_159_0, ⟨ki_159_1, ⟨ki_159_2, ⟨kbadG, ⟨kbadG, ⟨ki_159_5, ⟨ki_159_6, ⟨ki_159_7, ⟨kbadG, ⟨ki_159_9, trivial⟩⟩⟩⟩⟩⟩⟩⟩⟩⟩, trivial⟩)
set_option maxRecDepth 20000 in
theorem d_160_0 : decode (js_b 160) 0 = .ok (.aload_n 0, 1) := by decide +kernel
set_option maxRecDepth 20000 in
theorem d_160_1 : decode (js_b 160) 1 = .ok (.iload_n 1, 1) := by decide +kernel
set_option maxRecDepth 20000 in
theorem d_160_2 : decode (js_b 160) 2 = .ok (.invokevirtual 110, 3) := by decide +kernel
set_option maxRecDepth 20000 in
theorem d_160_5 : decode (js_b 160) 5 = .ok (.ireturn, 1) := by decide +kernel
set_option maxRecDepth 20000 in
theorem d_160_6 : decode (js_b 160) 6 = .ok (.astore_n 2, 1) := by decide +kernel
set_option maxRecDepth 20000 in
theorem d_160_7 : decode (js_b 160) 7 = .ok (.bipush (-14), 2) := by decide +kernel
set_option maxRecDepth 20000 in
theorem d_160_9 : decode (js_b 160) 9 = .ok (.ireturn, 1) := by decide +kernel
theorem ki_160_9 : js_OkG 160 9 (o_rI) := og_rI rfl d_160_9
theorem ki_160_7 : js_OkG 160 7 (o_ic (-14) 9) := js_St.okG (st_bipush rfl d_160_7) (fun _ _ _ _ _ => rfl)
theorem ki_160_6 : js_OkG 160 6 (o_aj 2 7) := og_aj1 rfl rfl rfl (Nat.le_of_ble_eq_true rfl) d_160_6
theorem ki_160_5 : js_OkG 160 5 (o_rI) := og_rI rfl d_160_5
theorem ki_160_2 : js_OkG 160 2 (o_hI 106 2 8 [("java/lang/IllegalStateException", 6)] 5) := og_hI (site_V kk_160_106 (by decide) kw_1373 kw_1374 kw_1375 (fun t ht => by cases ht; exact Or.inl ⟨by decide, _, rfl, rfl⟩) d_160_2) rfl rfl ⟨⟨by decide +kernel, by decide, rfl, rfl⟩, kw_274, kn_425, by decide +kernel, trivial⟩
theorem ki_160_1 : js_OkG 160 1 (o_il 1 2) := js_St.okG (st_iloadn rfl d_160_1) (fun _ _ _ _ _ => rfl)
theorem ki_160_0 : js_OkG 160 0 (o_al 0 1) := js_St.okG (st_aloadn rfl d_160_0) (fun _ _ _ _ _ => rfl)
set_option maxRecDepth 20000 in
theorem mk_160 : js_mokG 160 := jk_tab (fun _ => js_St.okG st_bad (fun _ _ _ _ _ => rfl)) (show jk_all (js_OkG 160) 0 tb_160 from ⟨⟨ki_160_0, ⟨ki_160_1, ⟨ki_160_2, ⟨kbadG, ⟨kbadG, ⟨ki_160_5, ⟨ki_160_6, ⟨ki_160_7, ⟨kbadG, ⟨ki_160_9, trivial⟩⟩⟩⟩⟩⟩⟩⟩⟩⟩, trivial⟩)
set_option maxRecDepth 20000 in
theorem d_161_0 : decode (js_b 161) 0 = .ok (.aload_n 0, 1) := by decide +kernel
set_option maxRecDepth 20000 in
theorem d_161_1 : decode (js_b 161) 1 = .ok (.invokevirtual 114, 3) := by decide +kernel
set_option maxRecDepth 20000 in
theorem d_161_4 : decode (js_b 161) 4 = .ok (.ireturn, 1) := by decide +kernel
set_option maxRecDepth 20000 in
theorem d_161_5 : decode (js_b 161) 5 = .ok (.astore_n 1, 1) := by decide +kernel
set_option maxRecDepth 20000 in
theorem d_161_6 : decode (js_b 161) 6 = .ok (.iconst (-1), 1) := by decide +kernel
set_option maxRecDepth 20000 in
theorem d_161_7 : decode (js_b 161) 7 = .ok (.ireturn, 1) := by decide +kernel
set_option maxRecDepth 20000 in
theorem d_161_8 : decode (js_b 161) 8 = .ok (.astore_n 1, 1) := by decide +kernel
set_option maxRecDepth 20000 in
theorem d_161_9 : decode (js_b 161) 9 = .ok (.bipush (-2), 2) := by decide +kernel
set_option maxRecDepth 20000 in
theorem d_161_11 : decode (js_b 161) 11 = .ok (.ireturn, 1) := by decide +kernel
theorem ki_161_11 : js_OkG 161 11 (o_rI) := og_rI rfl d_161_11
theorem ki_161_9 : js_OkG 161 9 (o_ic (-2) 11) := js_St.okG (st_bipush rfl d_161_9) (fun _ _ _ _ _ => rfl)
theorem ki_161_8 : js_OkG 161 8 (o_aj 1 9) := og_aj1 rfl rfl rfl (Nat.le_of_ble_eq_true rfl) d_161_8
theorem ki_161_7 : js_OkG 161 7 (o_rI) := og_rI rfl d_161_7
theorem ki_161_6 : js_OkG 161 6 (o_ic (-1) 7) := js_St.okG (st_iconst rfl d_161_6) (fun _ _ _ _ _ => rfl)
theorem ki_161_5 : js_OkG 161 5 (o_aj 1 6) := og_aj1 rfl rfl rfl (Nat.le_of_ble_eq_true rfl) d_161_5
theorem ki_161_4 : js_OkG 161 4 (o_rI) := og_rI rfl d_161_4
theorem ki_161_1 : js_OkG 161 1 (o_hI 107 1 8 [("java/lang/IllegalArgumentException", 5), ("java/lang/UnsupportedOperationException", 8)] 4) := og_hI (site_V kk_161_107 (by decide) kw_1389 kw_1390 kw_1391 (fun t ht => by cases ht; exact Or.inl ⟨by decide, _, rfl, rfl⟩) d_161_1) rfl rfl ⟨⟨by decide +kernel, by decide, rfl, rfl⟩, kw_273, kn_409, by decide +kernel, ⟨⟨by decide +kernel, by decide, rfl, rfl⟩, kw_490, kn_525, by decide +kernel, trivial⟩⟩
theorem ki_161_0 : js_OkG 161 0 (o_al 0 1) := js_St.okG (st_aloadn rfl d_161_0) (fun _ _ _ _ _ => rfl)
set_option maxRecDepth 20000 in
theorem mk_161 : js_mokG 161 := jk_tab (fun _ => js_St.okG st_bad (fun _ _ _ _ _ => rfl)) (show jk_all (js_OkG 161) 0 tb_161 from ⟨⟨ki_161_0, ⟨ki_161_1, ⟨kbadG, ⟨kbadG, ⟨ki_161_4, ⟨ki_161_5, ⟨ki_161_6, ⟨ki_161_7, ⟨ki_161_8, ⟨ki_161_9, ⟨kbadG, ⟨ki_161_11, trivial⟩⟩⟩⟩⟩⟩⟩⟩⟩⟩⟩⟩, trivial⟩)
set_option maxRecDepth 20000 in
theorem d_162_0 : decode (js_b 162) 0 = .ok (.aload_n 0, 1) := by decide +kernel
set_option maxRecDepth 20000 in
theorem d_162_1 : decode (js_b 162) 1 = .ok (.invokevirtual 123, 3) := by decide +kernel
set_option maxRecDepth 20000 in
theorem d_162_4 : decode (js_b 162) 4 = .ok (.ireturn, 1) := by decide +kernel
set_option maxRecDepth 20000 in
theorem d_162_5 : decode (js_b 162) 5 = .ok (.astore_n 1, 1) := by decide +kernel
set_option maxRecDepth 20000 in
theorem d_162_6 : decode (js_b 162) 6 = .ok (.iconst (-1), 1) := by decide +kernel
set_option maxRecDepth 20000 in
theorem d_162_7 : decode (js_b 162) 7 = .ok (.ireturn, 1) := by decide +kernel
theorem ki_162_7 : js_OkG 162 7 (o_rI) := og_rI rfl d_162_7
theorem ki_162_6 : js_OkG 162 6 (o_ic (-1) 7) := js_St.okG (st_iconst rfl d_162_6) (fun _ _ _ _ _ => rfl)
theorem ki_162_5 : js_OkG 162 5 (o_aj 1 6) := og_aj1 rfl rfl rfl (Nat.le_of_ble_eq_true rfl) d_162_5
theorem ki_162_4 : js_OkG 162 4 (o_rI) := og_rI rfl d_162_4
theorem ki_162_1 : js_OkG 162 1 (o_hI 110 1 8 [("java/lang/IllegalStateException", 5)] 4) := og_hI (site_V kk_162_110 (by decide) kw_1456 kw_1457 kw_1458 (fun t ht => by cases ht; exact Or.inl ⟨by decide, _, rfl, rfl⟩) d_162_1) rfl rfl ⟨⟨by decide +kernel, by decide, rfl, rfl⟩, kw_274, kn_425, by decide +kernel, trivial⟩
theorem ki_162_0 : js_OkG 162 0 (o_al 0 1) := js_St.okG (st_aloadn rfl d_162_0) (fun _ _ _ _ _ => rfl)
set_option maxRecDepth 20000 in
theorem mk_162 : js_mokG 162 := jk_tab (fun _ => js_St.okG st_bad (fun _ _ _ _ _ => rfl)) (show jk_all (js_OkG 162) 0 tb_162 from ⟨⟨ki_162_0, ⟨ki_162_1, ⟨kbadG, ⟨kbadG, ⟨ki_162_4, ⟨ki_162_5, ⟨ki_162_6, ⟨ki_162_7, trivial⟩⟩⟩⟩⟩⟩⟩⟩, trivial⟩)
set_option maxRecDepth 20000 in
theorem d_163_0 : decode (js_b 163) 0 = .ok (.aload_n 0, 1) := by decide +kernel
set_option maxRecDepth 20000 in
theorem d_163_1 : decode (js_b 163) 1 = .ok (.iload_n 1, 1) := by decide +kernel
set_option maxRecDepth 20000 in
theorem d_163_2 : decode (js_b 163) 2 = .ok (.invokevirtual 126, 3) := by decide +kernel
set_option maxRecDepth 20000 in
theorem d_163_5 : decode (js_b 163) 5 = .ok (.lreturn, 1) := by decide +kernel
set_option maxRecDepth 20000 in
theorem d_163_6 : decode (js_b 163) 6 = .ok (.astore_n 2, 1) := by decide +kernel
set_option maxRecDepth 20000 in
theorem d_163_7 : decode (js_b 163) 7 = .ok (.ldc2_w 130, 3) := by decide +kernel
set_option maxRecDepth 20000 in
theorem d_163_10 : decode (js_b 163) 10 = .ok (.lreturn, 1) := by decide +kernel
theorem ki_163_10 : js_OkG 163 10 (o_rL) := og_rL rfl d_163_10
theorem ki_163_7 : js_OkG 163 7 (o_lc (-2) 10) := js_St.okG (st_ldc2 kw_737 d_163_7) (fun _ _ _ _ _ => rfl)
theorem ki_163_6 : js_OkG 163 6 (o_aj 2 7) := og_aj1 rfl rfl rfl (Nat.le_of_ble_eq_true rfl) d_163_6
theorem ki_163_5 : js_OkG 163 5 (o_rL) := og_rL rfl d_163_5
theorem ki_163_2 : js_OkG 163 2 (o_hL 81 2 8 [("java/lang/IllegalArgumentException", 6)] 5) := og_hL (site_V kk_163_81 (by decide) kw_802 kw_803 kw_804 (fun t ht => by cases ht; exact Or.inl ⟨by decide, _, rfl, rfl⟩) d_163_2) rfl rfl ⟨⟨by decide +kernel, by decide, rfl, rfl⟩, kw_273, kn_409, by decide +kernel, trivial⟩
theorem ki_163_1 : js_OkG 163 1 (o_il 1 2) := js_St.okG (st_iloadn rfl d_163_1) (fun _ _ _ _ _ => rfl)
theorem ki_163_0 : js_OkG 163 0 (o_al 0 1) := js_St.okG (st_aloadn rfl d_163_0) (fun _ _ _ _ _ => rfl)
set_option maxRecDepth 20000 in
theorem mk_163 : js_mokG 163 := jk_tab (fun _ => js_St.okG st_bad (fun _ _ _ _ _ => rfl)) (show jk_all (js_OkG 163) 0 tb_163 from ⟨⟨ki_163_0, ⟨ki_163_1, ⟨ki_163_2, ⟨kbadG, ⟨kbadG, ⟨ki_163_5, ⟨ki_163_6, ⟨ki_163_7, ⟨kbadG, ⟨kbadG, ⟨ki_163_10, trivial⟩⟩⟩⟩⟩⟩⟩⟩⟩⟩⟩, trivial⟩)
set_option maxRecDepth 20000 in
theorem d_164_0 : decode (js_b 164) 0 = .ok (.aload_n 0, 1) := by decide +kernel
set_option maxRecDepth 20000 in
theorem d_164_1 : decode (js_b 164) 1 = .ok (.iload_n 1, 1) := by decide +kernel
set_option maxRecDepth 20000 in
theorem d_164_2 : decode (js_b 164) 2 = .ok (.invokevirtual 132, 3) := by decide +kernel
set_option maxRecDepth 20000 in
theorem d_164_5 : decode (js_b 164) 5 = .ok (.lreturn, 1) := by decide +kernel
set_option maxRecDepth 20000 in
theorem d_164_6 : decode (js_b 164) 6 = .ok (.astore_n 2, 1) := by decide +kernel
set_option maxRecDepth 20000 in
theorem d_164_7 : decode (js_b 164) 7 = .ok (.ldc2_w 130, 3) := by decide +kernel
set_option maxRecDepth 20000 in
theorem d_164_10 : decode (js_b 164) 10 = .ok (.lreturn, 1) := by decide +kernel
theorem ki_164_10 : js_OkG 164 10 (o_rL) := og_rL rfl d_164_10
theorem ki_164_7 : js_OkG 164 7 (o_lc (-2) 10) := js_St.okG (st_ldc2 kw_737 d_164_7) (fun _ _ _ _ _ => rfl)
theorem ki_164_6 : js_OkG 164 6 (o_aj 2 7) := og_aj1 rfl rfl rfl (Nat.le_of_ble_eq_true rfl) d_164_6
theorem ki_164_5 : js_OkG 164 5 (o_rL) := og_rL rfl d_164_5
theorem ki_164_2 : js_OkG 164 2 (o_hL 97 2 8 [("java/util/NoSuchElementException", 6)] 5) := og_hL (site_V kk_164_97 (by decide) kw_736 kw_715 kw_716 (fun t ht => by cases ht; exact Or.inl ⟨by decide, _, rfl, rfl⟩) d_164_2) rfl rfl ⟨⟨by decide +kernel, by decide, rfl, rfl⟩, kw_449, kn_321, by decide +kernel, trivial⟩
theorem ki_164_1 : js_OkG 164 1 (o_il 1 2) := js_St.okG (st_iloadn rfl d_164_1) (fun _ _ _ _ _ => rfl)
theorem ki_164_0 : js_OkG 164 0 (o_al 0 1) := js_St.okG (st_aloadn rfl d_164_0) (fun _ _ _ _ _ => rfl)
set_option maxRecDepth 20000 in
theorem mk_164 : js_mokG 164 := jk_tab (fun _ => js_St.okG st_bad (fun _ _ _ _ _ => rfl)) (show jk_all (js_OkG 164) 0 tb_164 from ⟨⟨ki_164_0, ⟨ki_164_1, ⟨ki_164_2, ⟨kbadG, ⟨kbadG, ⟨ki_164_5, ⟨ki_164_6, ⟨ki_164_7, ⟨kbadG, ⟨kbadG, ⟨ki_164_10, trivial⟩⟩⟩⟩⟩⟩⟩⟩⟩⟩⟩, trivial⟩)
set_option maxRecDepth 20000 in
theorem d_165_0 : decode (js_b 165) 0 = .ok (.iload_n 1, 1) := by decide +kernel
set_option maxRecDepth 20000 in
theorem d_165_1 : decode (js_b 165) 1 = .ok (.aload_n 0, 1) := by decide +kernel
set_option maxRecDepth 20000 in
theorem d_165_2 : decode (js_b 165) 2 = .ok (.arraylength, 1) := by decide +kernel
set_option maxRecDepth 20000 in
theorem d_165_3 : decode (js_b 165) 3 = .ok (.if_icmp .ge 9, 3) := by decide +kernel
set_option maxRecDepth 20000 in
theorem d_165_6 : decode (js_b 165) 6 = .ok (.aload_n 0, 1) := by decide +kernel
set_option maxRecDepth 20000 in
theorem d_165_7 : decode (js_b 165) 7 = .ok (.iload_n 1, 1) := by decide +kernel
set_option maxRecDepth 20000 in
theorem d_165_8 : decode (js_b 165) 8 = .ok (.iaload, 1) := by decide +kernel
set_option maxRecDepth 20000 in
theorem d_165_9 : decode (js_b 165) 9 = .ok (.goto 7, 3) := by decide +kernel
set_option maxRecDepth 20000 in
theorem d_165_12 : decode (js_b 165) 12 = .ok (.ldc 7, 2) := by decide +kernel
set_option maxRecDepth 20000 in
theorem d_165_14 : decode (js_b 165) 14 = .ok (.iload_n 1, 1) := by decide +kernel
set_option maxRecDepth 20000 in
theorem d_165_15 : decode (js_b 165) 15 = .ok (.imul, 1) := by decide +kernel
set_option maxRecDepth 20000 in
theorem d_165_16 : decode (js_b 165) 16 = .ok (.ireturn, 1) := by decide +kernel
theorem ki_165_15 : js_OkG 165 15 (o_b2 (fun x y => x * y) 16) := js_St.okG (st_imul d_165_15) (fun _ _ _ _ _ => rfl)
theorem ki_165_14 : js_OkG 165 14 (o_il 1 15) := js_St.okG (st_iloadn rfl d_165_14) (fun _ _ _ _ _ => rfl)
theorem ki_165_12 : js_OkG 165 12 (o_ic 40503 14) := js_St.okG (st_ldc kw_266 d_165_12) (fun _ _ _ _ _ => rfl)
theorem ki_165_9 : js_OkG 165 9 (o_go 16) := js_St.okG (st_goto (by decide) d_165_9) (fun _ _ _ _ _ => rfl)
theorem ki_165_8 : js_OkG 165 8 (o_lI 100 9) := js_St.okG (st_lI d_165_8) (fun _ _ _ _ _ => rfl)
theorem ki_165_7 : js_OkG 165 7 (o_il 1 8) := js_St.okG (st_iloadn rfl d_165_7) (fun _ _ _ _ _ => rfl)
theorem ki_165_6 : js_OkG 165 6 (o_al 0 7) := js_St.okG (st_aloadn rfl d_165_6) (fun _ _ _ _ _ => rfl)
theorem ki_165_3 : js_OkG 165 3 (o_cge 12 6) := js_St.okG (st_icge (by decide) d_165_3) (fun _ _ _ _ _ => rfl)
theorem ki_165_2 : js_OkG 165 2 (o_len 3) := js_St.okG (st_len d_165_2) (fun _ _ _ _ _ => rfl)
theorem ki_165_1 : js_OkG 165 1 (o_al 0 2) := js_St.okG (st_aloadn rfl d_165_1) (fun _ _ _ _ _ => rfl)
theorem ki_165_0 : js_OkG 165 0 (o_il 1 1) := js_St.okG (st_iloadn rfl d_165_0) (fun _ _ _ _ _ => rfl)
theorem ki_165_16 : js_OkG 165 16 (o_rI) := og_rI rfl d_165_16
set_option maxRecDepth 20000 in
theorem mk_165 : js_mokG 165 := jk_tab (fun _ => js_St.okG st_bad (fun _ _ _ _ _ => rfl)) (show jk_all (js_OkG 165) 0 tb_165 from ⟨⟨ki_165_0, ⟨ki_165_1, ⟨ki_165_2, ⟨ki_165_3, ⟨kbadG, ⟨kbadG, ⟨ki_165_6, ⟨ki_165_7, ⟨ki_165_8, ⟨ki_165_9, ⟨kbadG, ⟨kbadG, ⟨ki_165_12, ⟨kbadG, ⟨ki_165_14, ⟨ki_165_15, trivial⟩⟩⟩⟩⟩⟩⟩⟩⟩⟩⟩⟩⟩⟩⟩⟩, ⟨⟨ki_165_16, trivial⟩, trivial⟩⟩)
set_option maxRecDepth 20000 in
theorem d_166_0 : decode (js_b 166) 0 = .ok (.iconst 0, 1) := by decide +kernel
set_option maxRecDepth 20000 in
theorem d_166_1 : decode (js_b 166) 1 = .ok (.istore_n 2, 1) := by decide +kernel
set_option maxRecDepth 20000 in
theorem d_166_2 : decode (js_b 166) 2 = .ok (.iload_n 2, 1) := by decide +kernel
set_option maxRecDepth 20000 in
theorem d_166_3 : decode (js_b 166) 3 = .ok (.aload_n 1, 1) := by decide +kernel
set_option maxRecDepth 20000 in
theorem d_166_4 : decode (js_b 166) 4 = .ok (.invokevirtual 136, 3) := by decide +kernel
set_option maxRecDepth 20000 in
theorem d_166_7 : decode (js_b 166) 7 = .ok (.if_icmp .ge 27, 3) := by decide +kernel
set_option maxRecDepth 20000 in
theorem d_166_10 : decode (js_b 166) 10 = .ok (.aload_n 0, 1) := by decide +kernel
set_option maxRecDepth 20000 in
theorem d_166_11 : decode (js_b 166) 11 = .ok (.aload_n 1, 1) := by decide +kernel
set_option maxRecDepth 20000 in
theorem d_166_12 : decode (js_b 166) 12 = .ok (.iload_n 2, 1) := by decide +kernel
set_option maxRecDepth 20000 in
theorem d_166_13 : decode (js_b 166) 13 = .ok (.invokevirtual 141, 3) := by decide +kernel
set_option maxRecDepth 20000 in
theorem d_166_16 : decode (js_b 166) 16 = .ok (.invokestatic 144, 3) := by decide +kernel
set_option maxRecDepth 20000 in
theorem d_166_19 : decode (js_b 166) 19 = .ok (.iload_n 2, 1) := by decide +kernel
set_option maxRecDepth 20000 in
theorem d_166_20 : decode (js_b 166) 20 = .ok (.iconst 1, 1) := by decide +kernel
set_option maxRecDepth 20000 in
theorem d_166_21 : decode (js_b 166) 21 = .ok (.iadd, 1) := by decide +kernel
set_option maxRecDepth 20000 in
theorem d_166_22 : decode (js_b 166) 22 = .ok (.if_icmp .eq 6, 3) := by decide +kernel
set_option maxRecDepth 20000 in
theorem d_166_25 : decode (js_b 166) 25 = .ok (.bipush (-9), 2) := by decide +kernel
set_option maxRecDepth 20000 in
theorem d_166_27 : decode (js_b 166) 27 = .ok (.ireturn, 1) := by decide +kernel
set_option maxRecDepth 20000 in
theorem d_166_28 : decode (js_b 166) 28 = .ok (.iinc 2 1, 3) := by decide +kernel
set_option maxRecDepth 20000 in
theorem d_166_31 : decode (js_b 166) 31 = .ok (.goto (-29), 3) := by decide +kernel
set_option maxRecDepth 20000 in
theorem d_166_34 : decode (js_b 166) 34 = .ok (.aload_n 0, 1) := by decide +kernel
set_option maxRecDepth 20000 in
theorem d_166_35 : decode (js_b 166) 35 = .ok (.invokestatic 149, 3) := by decide +kernel
set_option maxRecDepth 20000 in
theorem d_166_38 : decode (js_b 166) 38 = .ok (.ireturn, 1) := by decide +kernel
theorem ki_166_13 : js_OkG 166 13 (o_cI 249 2 21 16) := og_cI (site_V kk_166_249 (by decide) kw_1282 kw_1283 kw_1284 (fun t ht => by cases ht; exact Or.inr (Or.inl ⟨rfl, rfl⟩)) d_166_13) rfl rfl
theorem ki_166_12 : js_OkG 166 12 (o_il 2 13) := js_St.okG (st_iloadn rfl d_166_12) (fun _ _ _ _ _ => rfl)
theorem ki_166_11 : js_OkG 166 11 (o_al 1 12) := js_St.okG (st_aloadn rfl d_166_11) (fun _ _ _ _ _ => rfl)
theorem ki_166_10 : js_OkG 166 10 (o_al 0 11) := js_St.okG (st_aloadn rfl d_166_10) (fun _ _ _ _ _ => rfl)
theorem ki_166_7 : js_OkG 166 7 (o_cge 34 10) := js_St.okG (st_icge (by decide) d_166_7) (fun _ _ _ _ _ => rfl)
theorem ki_166_4 : js_OkG 166 4 (o_cI 248 1 21 7) := og_cI (site_V kk_166_248 (by decide) kw_1273 kw_1108 kw_1109 (fun t ht => by cases ht; exact Or.inr (Or.inl ⟨rfl, rfl⟩)) d_166_4) rfl rfl
theorem ki_166_3 : js_OkG 166 3 (o_al 1 4) := js_St.okG (st_aloadn rfl d_166_3) (fun _ _ _ _ _ => rfl)
theorem ki_166_2 : js_OkG 166 2 (o_il 2 3) := js_St.okG (st_iloadn rfl d_166_2) (fun _ _ _ _ _ => rfl)
theorem ki_166_1 : js_OkG 166 1 (o_is 2 2) := js_St.okG (st_istoren rfl (Nat.le_of_ble_eq_true rfl) d_166_1) (fun _ _ _ _ _ => rfl)
theorem ki_166_0 : js_OkG 166 0 (o_ic 0 1) := js_St.okG (st_iconst rfl d_166_0) (fun _ _ _ _ _ => rfl)
theorem ki_166_31 : js_OkG 166 31 (o_go 2) := js_St.okG (st_goto (by decide) d_166_31) (fun _ _ _ _ _ => rfl)
theorem ki_166_28 : js_OkG 166 28 (o_inc 2 1 31) := js_St.okG (st_iinc rfl (Nat.le_of_ble_eq_true rfl) d_166_28) (fun _ _ _ _ _ => rfl)
theorem ki_166_27 : js_OkG 166 27 (o_rI) := og_rI rfl d_166_27
theorem ki_166_25 : js_OkG 166 25 (o_ic (-9) 27) := js_St.okG (st_bipush rfl d_166_25) (fun _ _ _ _ _ => rfl)
theorem ki_166_22 : js_OkG 166 22 (o_ceq 28 25) := js_St.okG (st_iceq (by decide) d_166_22) (fun _ _ _ _ _ => rfl)
theorem ki_166_21 : js_OkG 166 21 (o_b2 (fun x y => x + y) 22) := js_St.okG (st_iadd d_166_21) (fun _ _ _ _ _ => rfl)
theorem ki_166_20 : js_OkG 166 20 (o_ic 1 21) := js_St.okG (st_iconst rfl d_166_20) (fun _ _ _ _ _ => rfl)
theorem ki_166_19 : js_OkG 166 19 (o_il 2 20) := js_St.okG (st_iloadn rfl d_166_19) (fun _ _ _ _ _ => rfl)
theorem ki_166_16 : js_OkG 166 16 (o_cI 160 2 0 19) := og_sIW rfl rfl kB_166_160 rfl kw_1370 kw_1371 d_166_16
theorem ki_166_38 : js_OkG 166 38 (o_rI) := og_rI rfl d_166_38
theorem ki_166_35 : js_OkG 166 35 (o_cI 161 1 0 38) := og_sIW rfl rfl kB_166_161 rfl kw_1386 kw_1387 d_166_35
theorem ki_166_34 : js_OkG 166 34 (o_al 0 35) := js_St.okG (st_aloadn rfl d_166_34) (fun _ _ _ _ _ => rfl)
set_option maxRecDepth 20000 in
theorem mk_166 : js_mokG 166 := jk_tab (fun _ => js_St.okG st_bad (fun _ _ _ _ _ => rfl)) (show jk_all (js_OkG 166) 0 tb_166 from ⟨⟨ki_166_0, ⟨ki_166_1, ⟨ki_166_2, ⟨ki_166_3, ⟨ki_166_4, ⟨kbadG, ⟨kbadG, ⟨ki_166_7, ⟨kbadG, ⟨kbadG, ⟨ki_166_10, ⟨ki_166_11, ⟨ki_166_12, ⟨ki_166_13, ⟨kbadG, ⟨kbadG, trivial⟩⟩⟩⟩⟩⟩⟩⟩⟩⟩⟩⟩⟩⟩⟩⟩, ⟨⟨ki_166_16, ⟨kbadG, ⟨kbadG, ⟨ki_166_19, ⟨ki_166_20, ⟨ki_166_21, ⟨ki_166_22, ⟨kbadG, ⟨kbadG, ⟨ki_166_25, ⟨kbadG, ⟨ki_166_27, ⟨ki_166_28, ⟨kbadG, ⟨kbadG, ⟨ki_166_31, trivial⟩⟩⟩⟩⟩⟩⟩⟩⟩⟩⟩⟩⟩⟩⟩⟩, ⟨⟨kbadG, ⟨kbadG, ⟨ki_166_34, ⟨ki_166_35, ⟨kbadG, ⟨kbadG, ⟨ki_166_38, trivial⟩⟩⟩⟩⟩⟩⟩, trivial⟩⟩⟩)
set_option maxRecDepth 20000 in
theorem d_167_0 : decode (js_b 167) 0 = .ok (.iload_n 0, 1) := by decide +kernel
set_option maxRecDepth 20000 in
theorem d_167_1 : decode (js_b 167) 1 = .ok (.bipush 6, 2) := by decide +kernel
set_option maxRecDepth 20000 in
theorem d_167_3 : decode (js_b 167) 3 = .ok (.irem, 1) := by decide +kernel
set_option maxRecDepth 20000 in
theorem d_167_4 : decode (js_b 167) 4 = .ok (.tableswitch 48 0 4 #[36, 38, 41, 43, 46], 36) := by decide +kernel
set_option maxRecDepth 20000 in
theorem d_167_40 : decode (js_b 167) 40 = .ok (.iconst 3, 1) := by decide +kernel
set_option maxRecDepth 20000 in
theorem d_167_41 : decode (js_b 167) 41 = .ok (.ireturn, 1) := by decide +kernel
set_option maxRecDepth 20000 in
theorem d_167_42 : decode (js_b 167) 42 = .ok (.bipush 12, 2) := by decide +kernel
set_option maxRecDepth 20000 in
theorem d_167_44 : decode (js_b 167) 44 = .ok (.ireturn, 1) := by decide +kernel
set_option maxRecDepth 20000 in
theorem d_167_45 : decode (js_b 167) 45 = .ok (.iconst 5, 1) := by decide +kernel
set_option maxRecDepth 20000 in
theorem d_167_46 : decode (js_b 167) 46 = .ok (.ireturn, 1) := by decide +kernel
set_option maxRecDepth 20000 in
theorem d_167_47 : decode (js_b 167) 47 = .ok (.bipush 10, 2) := by decide +kernel
set_option maxRecDepth 20000 in
theorem d_167_49 : decode (js_b 167) 49 = .ok (.ireturn, 1) := by decide +kernel
set_option maxRecDepth 20000 in
theorem d_167_50 : decode (js_b 167) 50 = .ok (.iconst 0, 1) := by decide +kernel
set_option maxRecDepth 20000 in
theorem d_167_51 : decode (js_b 167) 51 = .ok (.ireturn, 1) := by decide +kernel
set_option maxRecDepth 20000 in
theorem d_167_52 : decode (js_b 167) 52 = .ok (.iload_n 0, 1) := by decide +kernel
set_option maxRecDepth 20000 in
theorem d_167_53 : decode (js_b 167) 53 = .ok (.iconst 3, 1) := by decide +kernel
set_option maxRecDepth 20000 in
theorem d_167_54 : decode (js_b 167) 54 = .ok (.iushr, 1) := by decide +kernel
set_option maxRecDepth 20000 in
theorem d_167_55 : decode (js_b 167) 55 = .ok (.bipush 16, 2) := by decide +kernel
set_option maxRecDepth 20000 in
theorem d_167_57 : decode (js_b 167) 57 = .ok (.irem, 1) := by decide +kernel
set_option maxRecDepth 20000 in
theorem d_167_58 : decode (js_b 167) 58 = .ok (.ireturn, 1) := by decide +kernel
theorem ki_167_4 : js_OkG 167 4 (o_sw 52 [(0, 40), (1, 42), (2, 45), (3, 47), (4, 50)]) := js_St.okG (st_tsw (by decide +kernel) (by decide +kernel) (by decide +kernel) d_167_4) (fun _ _ _ _ _ => rfl)
theorem ki_167_3 : js_OkG 167 3 (o_rem 4) := js_St.okG (st_irem d_167_3) (fun _ _ _ _ _ => rfl)
theorem ki_167_1 : js_OkG 167 1 (o_ic 6 3) := js_St.okG (st_bipush rfl d_167_1) (fun _ _ _ _ _ => rfl)
theorem ki_167_0 : js_OkG 167 0 (o_il 0 1) := js_St.okG (st_iloadn rfl d_167_0) (fun _ _ _ _ _ => rfl)
theorem ki_167_47 : js_OkG 167 47 (o_ic 10 49) := js_St.okG (st_bipush rfl d_167_47) (fun _ _ _ _ _ => rfl)
theorem ki_167_46 : js_OkG 167 46 (o_rI) := og_rI rfl d_167_46
theorem ki_167_45 : js_OkG 167 45 (o_ic 5 46) := js_St.okG (st_iconst rfl d_167_45) (fun _ _ _ _ _ => rfl)
theorem ki_167_44 : js_OkG 167 44 (o_rI) := og_rI rfl d_167_44
theorem ki_167_42 : js_OkG 167 42 (o_ic 12 44) := js_St.okG (st_bipush rfl d_167_42) (fun _ _ _ _ _ => rfl)
theorem ki_167_41 : js_OkG 167 41 (o_rI) := og_rI rfl d_167_41
theorem ki_167_40 : js_OkG 167 40 (o_ic 3 41) := js_St.okG (st_iconst rfl d_167_40) (fun _ _ _ _ _ => rfl)
theorem ki_167_58 : js_OkG 167 58 (o_rI) := og_rI rfl d_167_58
theorem ki_167_57 : js_OkG 167 57 (o_rem 58) := js_St.okG (st_irem d_167_57) (fun _ _ _ _ _ => rfl)
theorem ki_167_55 : js_OkG 167 55 (o_ic 16 57) := js_St.okG (st_bipush rfl d_167_55) (fun _ _ _ _ _ => rfl)
theorem ki_167_54 : js_OkG 167 54 (o_b2 (fun x y => (x.toUInt32 >>> (y.toUInt32 &&& Int32.toUInt32 31)).toInt32) 55) := js_St.okG (st_iushr d_167_54) (fun _ _ _ _ _ => rfl)
theorem ki_167_53 : js_OkG 167 53 (o_ic 3 54) := js_St.okG (st_iconst rfl d_167_53) (fun _ _ _ _ _ => rfl)
theorem ki_167_52 : js_OkG 167 52 (o_il 0 53) := js_St.okG (st_iloadn rfl d_167_52) (fun _ _ _ _ _ => rfl)
theorem ki_167_51 : js_OkG 167 51 (o_rI) := og_rI rfl d_167_51
theorem ki_167_50 : js_OkG 167 50 (o_ic 0 51) := js_St.okG (st_iconst rfl d_167_50) (fun _ _ _ _ _ => rfl)
theorem ki_167_49 : js_OkG 167 49 (o_rI) := og_rI rfl d_167_49
set_option maxRecDepth 20000 in
theorem mk_167 : js_mokG 167 := jk_tab (fun _ => js_St.okG st_bad (fun _ _ _ _ _ => rfl)) (show jk_all (js_OkG 167) 0 tb_167 from ⟨⟨ki_167_0, ⟨ki_167_1, ⟨kbadG, ⟨ki_167_3, ⟨ki_167_4, ⟨kbadG, ⟨kbadG, ⟨kbadG, ⟨kbadG, ⟨kbadG, ⟨kbadG, ⟨kbadG, ⟨kbadG, ⟨kbadG, ⟨kbadG, ⟨kbadG, trivial⟩⟩⟩⟩⟩⟩⟩⟩⟩⟩⟩⟩⟩⟩⟩⟩, ⟨⟨kbadG, ⟨kbadG, ⟨kbadG, ⟨kbadG, ⟨kbadG, ⟨kbadG, ⟨kbadG, ⟨kbadG, ⟨kbadG, ⟨kbadG, ⟨kbadG, ⟨kbadG, ⟨kbadG, ⟨kbadG, ⟨kbadG, ⟨kbadG, trivial⟩⟩⟩⟩⟩⟩⟩⟩⟩⟩⟩⟩⟩⟩⟩⟩, ⟨⟨kbadG, ⟨kbadG, ⟨kbadG, ⟨kbadG, ⟨kbadG, ⟨kbadG, ⟨kbadG, ⟨kbadG, ⟨ki_167_40, ⟨ki_167_41, ⟨ki_167_42, ⟨kbadG, ⟨ki_167_44, ⟨ki_167_45, ⟨ki_167_46, ⟨ki_167_47, trivial⟩⟩⟩⟩⟩⟩⟩⟩⟩⟩⟩⟩⟩⟩⟩⟩, ⟨⟨kbadG, ⟨ki_167_49, ⟨ki_167_50, ⟨ki_167_51, ⟨ki_167_52, ⟨ki_167_53, ⟨ki_167_54, ⟨ki_167_55, ⟨kbadG, ⟨ki_167_57, ⟨ki_167_58, trivial⟩⟩⟩⟩⟩⟩⟩⟩⟩⟩⟩, trivial⟩⟩⟩⟩)
set_option maxRecDepth 20000 in
theorem d_168_0 : decode (js_b 168) 0 = .ok (.new 9, 3) := by decide +kernel
set_option maxRecDepth 20000 in
theorem d_168_3 : decode (js_b 168) 3 = .ok (.dup, 1) := by decide +kernel
set_option maxRecDepth 20000 in
theorem d_168_4 : decode (js_b 168) 4 = .ok (.invokespecial 153, 3) := by decide +kernel
set_option maxRecDepth 20000 in
theorem d_168_7 : decode (js_b 168) 7 = .ok (.astore_n 1, 1) := by decide +kernel
set_option maxRecDepth 20000 in
theorem d_168_8 : decode (js_b 168) 8 = .ok (.aload_n 0, 1) := by decide +kernel
set_option maxRecDepth 20000 in
theorem d_168_9 : decode (js_b 168) 9 = .ok (.iconst 0, 1) := by decide +kernel
set_option maxRecDepth 20000 in
theorem d_168_10 : decode (js_b 168) 10 = .ok (.invokestatic 154, 3) := by decide +kernel
set_option maxRecDepth 20000 in
theorem d_168_13 : decode (js_b 168) 13 = .ok (.iconst 1, 1) := by decide +kernel
set_option maxRecDepth 20000 in
theorem d_168_14 : decode (js_b 168) 14 = .ok (.iushr, 1) := by decide +kernel
set_option maxRecDepth 20000 in
theorem d_168_15 : decode (js_b 168) 15 = .ok (.istore_n 2, 1) := by decide +kernel
set_option maxRecDepth 20000 in
theorem d_168_16 : decode (js_b 168) 16 = .ok (.iconst 4, 1) := by decide +kernel
set_option maxRecDepth 20000 in
theorem d_168_17 : decode (js_b 168) 17 = .ok (.iload_n 2, 1) := by decide +kernel
set_option maxRecDepth 20000 in
theorem d_168_18 : decode (js_b 168) 18 = .ok (.bipush 9, 2) := by decide +kernel
set_option maxRecDepth 20000 in
theorem d_168_20 : decode (js_b 168) 20 = .ok (.irem, 1) := by decide +kernel
set_option maxRecDepth 20000 in
theorem d_168_21 : decode (js_b 168) 21 = .ok (.iadd, 1) := by decide +kernel
set_option maxRecDepth 20000 in
theorem d_168_22 : decode (js_b 168) 22 = .ok (.istore_n 3, 1) := by decide +kernel
set_option maxRecDepth 20000 in
theorem d_168_23 : decode (js_b 168) 23 = .ok (.iconst 0, 1) := by decide +kernel
set_option maxRecDepth 20000 in
theorem d_168_24 : decode (js_b 168) 24 = .ok (.istore 4, 2) := by decide +kernel
set_option maxRecDepth 20000 in
theorem d_168_26 : decode (js_b 168) 26 = .ok (.iload 4, 2) := by decide +kernel
set_option maxRecDepth 20000 in
theorem d_168_28 : decode (js_b 168) 28 = .ok (.iload_n 3, 1) := by decide +kernel
set_option maxRecDepth 20000 in
theorem d_168_29 : decode (js_b 168) 29 = .ok (.if_icmp .ge 71, 3) := by decide +kernel
set_option maxRecDepth 20000 in
theorem d_168_32 : decode (js_b 168) 32 = .ok (.aload_n 0, 1) := by decide +kernel
set_option maxRecDepth 20000 in
theorem d_168_33 : decode (js_b 168) 33 = .ok (.iconst 1, 1) := by decide +kernel
set_option maxRecDepth 20000 in
theorem d_168_34 : decode (js_b 168) 34 = .ok (.iload 4, 2) := by decide +kernel
set_option maxRecDepth 20000 in
theorem d_168_36 : decode (js_b 168) 36 = .ok (.iadd, 1) := by decide +kernel
set_option maxRecDepth 20000 in
theorem d_168_37 : decode (js_b 168) 37 = .ok (.invokestatic 154, 3) := by decide +kernel
set_option maxRecDepth 20000 in
theorem d_168_40 : decode (js_b 168) 40 = .ok (.iconst 1, 1) := by decide +kernel
set_option maxRecDepth 20000 in
theorem d_168_41 : decode (js_b 168) 41 = .ok (.iushr, 1) := by decide +kernel
set_option maxRecDepth 20000 in
theorem d_168_42 : decode (js_b 168) 42 = .ok (.istore 5, 2) := by decide +kernel
set_option maxRecDepth 20000 in
theorem d_168_44 : decode (js_b 168) 44 = .ok (.aload_n 1, 1) := by decide +kernel
set_option maxRecDepth 20000 in
theorem d_168_45 : decode (js_b 168) 45 = .ok (.bipush 97, 2) := by decide +kernel
set_option maxRecDepth 20000 in
theorem d_168_47 : decode (js_b 168) 47 = .ok (.iload 5, 2) := by decide +kernel
set_option maxRecDepth 20000 in
theorem d_168_49 : decode (js_b 168) 49 = .ok (.iconst 3, 1) := by decide +kernel
set_option maxRecDepth 20000 in
theorem d_168_50 : decode (js_b 168) 50 = .ok (.irem, 1) := by decide +kernel
set_option maxRecDepth 20000 in
theorem d_168_51 : decode (js_b 168) 51 = .ok (.iadd, 1) := by decide +kernel
set_option maxRecDepth 20000 in
theorem d_168_52 : decode (js_b 168) 52 = .ok (.i2c, 1) := by decide +kernel
set_option maxRecDepth 20000 in
theorem d_168_53 : decode (js_b 168) 53 = .ok (.iload 5, 2) := by decide +kernel
set_option maxRecDepth 20000 in
theorem d_168_55 : decode (js_b 168) 55 = .ok (.iconst 2, 1) := by decide +kernel
set_option maxRecDepth 20000 in
theorem d_168_56 : decode (js_b 168) 56 = .ok (.iushr, 1) := by decide +kernel
set_option maxRecDepth 20000 in
theorem d_168_57 : decode (js_b 168) 57 = .ok (.invokestatic 157, 3) := by decide +kernel
set_option maxRecDepth 20000 in
theorem d_168_60 : decode (js_b 168) 60 = .ok (.iload 5, 2) := by decide +kernel
set_option maxRecDepth 20000 in
theorem d_168_62 : decode (js_b 168) 62 = .ok (.bipush 8, 2) := by decide +kernel
set_option maxRecDepth 20000 in
theorem d_168_64 : decode (js_b 168) 64 = .ok (.iushr, 1) := by decide +kernel
set_option maxRecDepth 20000 in
theorem d_168_65 : decode (js_b 168) 65 = .ok (.invokestatic 157, 3) := by decide +kernel
set_option maxRecDepth 20000 in
theorem d_168_68 : decode (js_b 168) 68 = .ok (.iload 5, 2) := by decide +kernel
set_option maxRecDepth 20000 in
theorem d_168_70 : decode (js_b 168) 70 = .ok (.bipush 14, 2) := by decide +kernel
set_option maxRecDepth 20000 in
theorem d_168_72 : decode (js_b 168) 72 = .ok (.iushr, 1) := by decide +kernel
set_option maxRecDepth 20000 in
theorem d_168_73 : decode (js_b 168) 73 = .ok (.invokestatic 157, 3) := by decide +kernel
set_option maxRecDepth 20000 in
theorem d_168_76 : decode (js_b 168) 76 = .ok (.iload 5, 2) := by decide +kernel
set_option maxRecDepth 20000 in
theorem d_168_78 : decode (js_b 168) 78 = .ok (.bipush 20, 2) := by decide +kernel
set_option maxRecDepth 20000 in
theorem d_168_80 : decode (js_b 168) 80 = .ok (.iushr, 1) := by decide +kernel
set_option maxRecDepth 20000 in
theorem d_168_81 : decode (js_b 168) 81 = .ok (.invokestatic 157, 3) := by decide +kernel
set_option maxRecDepth 20000 in
theorem d_168_84 : decode (js_b 168) 84 = .ok (.invokestatic 160, 3) := by decide +kernel
set_option maxRecDepth 20000 in
theorem d_168_87 : decode (js_b 168) 87 = .ok (.iload 4, 2) := by decide +kernel
set_option maxRecDepth 20000 in
theorem d_168_89 : decode (js_b 168) 89 = .ok (.if_icmp .eq 5, 3) := by decide +kernel
set_option maxRecDepth 20000 in
theorem d_168_92 : decode (js_b 168) 92 = .ok (.aconst_null, 1) := by decide +kernel
set_option maxRecDepth 20000 in
theorem d_168_93 : decode (js_b 168) 93 = .ok (.areturn, 1) := by decide +kernel
set_option maxRecDepth 20000 in
theorem d_168_94 : decode (js_b 168) 94 = .ok (.iinc 4 1, 3) := by decide +kernel
set_option maxRecDepth 20000 in
theorem d_168_97 : decode (js_b 168) 97 = .ok (.goto (-71), 3) := by decide +kernel
set_option maxRecDepth 20000 in
theorem d_168_100 : decode (js_b 168) 100 = .ok (.iconst 0, 1) := by decide +kernel
set_option maxRecDepth 20000 in
theorem d_168_101 : decode (js_b 168) 101 = .ok (.istore 4, 2) := by decide +kernel
set_option maxRecDepth 20000 in
theorem d_168_103 : decode (js_b 168) 103 = .ok (.iload 4, 2) := by decide +kernel
set_option maxRecDepth 20000 in
theorem d_168_105 : decode (js_b 168) 105 = .ok (.bipush 9, 2) := by decide +kernel
set_option maxRecDepth 20000 in
theorem d_168_107 : decode (js_b 168) 107 = .ok (.if_icmp .ge 126, 3) := by decide +kernel
set_option maxRecDepth 20000 in
theorem d_168_110 : decode (js_b 168) 110 = .ok (.aload_n 0, 1) := by decide +kernel
set_option maxRecDepth 20000 in
theorem d_168_111 : decode (js_b 168) 111 = .ok (.bipush 13, 2) := by decide +kernel
set_option maxRecDepth 20000 in
theorem d_168_113 : decode (js_b 168) 113 = .ok (.iload 4, 2) := by decide +kernel
set_option maxRecDepth 20000 in
theorem d_168_115 : decode (js_b 168) 115 = .ok (.iadd, 1) := by decide +kernel
set_option maxRecDepth 20000 in
theorem d_168_116 : decode (js_b 168) 116 = .ok (.invokestatic 154, 3) := by decide +kernel
set_option maxRecDepth 20000 in
theorem d_168_119 : decode (js_b 168) 119 = .ok (.iconst 1, 1) := by decide +kernel
set_option maxRecDepth 20000 in
theorem d_168_120 : decode (js_b 168) 120 = .ok (.iushr, 1) := by decide +kernel
set_option maxRecDepth 20000 in
theorem d_168_121 : decode (js_b 168) 121 = .ok (.istore 5, 2) := by decide +kernel
set_option maxRecDepth 20000 in
theorem d_168_123 : decode (js_b 168) 123 = .ok (.iload_n 2, 1) := by decide +kernel
set_option maxRecDepth 20000 in
theorem d_168_124 : decode (js_b 168) 124 = .ok (.iconst 4, 1) := by decide +kernel
set_option maxRecDepth 20000 in
theorem d_168_125 : decode (js_b 168) 125 = .ok (.iushr, 1) := by decide +kernel
set_option maxRecDepth 20000 in
theorem d_168_126 : decode (js_b 168) 126 = .ok (.bipush 6, 2) := by decide +kernel
set_option maxRecDepth 20000 in
theorem d_168_128 : decode (js_b 168) 128 = .ok (.irem, 1) := by decide +kernel
set_option maxRecDepth 20000 in
theorem d_168_129 : decode (js_b 168) 129 = .ok (.iload 5, 2) := by decide +kernel
set_option maxRecDepth 20000 in
theorem d_168_131 : decode (js_b 168) 131 = .ok (.iconst 4, 1) := by decide +kernel
set_option maxRecDepth 20000 in
theorem d_168_132 : decode (js_b 168) 132 = .ok (.iushr, 1) := by decide +kernel
set_option maxRecDepth 20000 in
theorem d_168_133 : decode (js_b 168) 133 = .ok (.iconst 3, 1) := by decide +kernel
set_option maxRecDepth 20000 in
theorem d_168_134 : decode (js_b 168) 134 = .ok (.irem, 1) := by decide +kernel
set_option maxRecDepth 20000 in
theorem d_168_135 : decode (js_b 168) 135 = .ok (.iadd, 1) := by decide +kernel
set_option maxRecDepth 20000 in
theorem d_168_136 : decode (js_b 168) 136 = .ok (.istore 6, 2) := by decide +kernel
set_option maxRecDepth 20000 in
theorem d_168_138 : decode (js_b 168) 138 = .ok (.iload_n 2, 1) := by decide +kernel
set_option maxRecDepth 20000 in
theorem d_168_139 : decode (js_b 168) 139 = .ok (.bipush 7, 2) := by decide +kernel
set_option maxRecDepth 20000 in
theorem d_168_141 : decode (js_b 168) 141 = .ok (.iushr, 1) := by decide +kernel
set_option maxRecDepth 20000 in
theorem d_168_142 : decode (js_b 168) 142 = .ok (.bipush 6, 2) := by decide +kernel
set_option maxRecDepth 20000 in
theorem d_168_144 : decode (js_b 168) 144 = .ok (.irem, 1) := by decide +kernel
set_option maxRecDepth 20000 in
theorem d_168_145 : decode (js_b 168) 145 = .ok (.iload 5, 2) := by decide +kernel
set_option maxRecDepth 20000 in
theorem d_168_147 : decode (js_b 168) 147 = .ok (.bipush 6, 2) := by decide +kernel
set_option maxRecDepth 20000 in
theorem d_168_149 : decode (js_b 168) 149 = .ok (.iushr, 1) := by decide +kernel
set_option maxRecDepth 20000 in
theorem d_168_150 : decode (js_b 168) 150 = .ok (.iconst 3, 1) := by decide +kernel
set_option maxRecDepth 20000 in
theorem d_168_151 : decode (js_b 168) 151 = .ok (.irem, 1) := by decide +kernel
set_option maxRecDepth 20000 in
theorem d_168_152 : decode (js_b 168) 152 = .ok (.iadd, 1) := by decide +kernel
set_option maxRecDepth 20000 in
theorem d_168_153 : decode (js_b 168) 153 = .ok (.istore 7, 2) := by decide +kernel
set_option maxRecDepth 20000 in
theorem d_168_155 : decode (js_b 168) 155 = .ok (.iload 5, 2) := by decide +kernel
set_option maxRecDepth 20000 in
theorem d_168_157 : decode (js_b 168) 157 = .ok (.iconst 4, 1) := by decide +kernel
set_option maxRecDepth 20000 in
theorem d_168_158 : decode (js_b 168) 158 = .ok (.irem, 1) := by decide +kernel
set_option maxRecDepth 20000 in
theorem d_168_159 : decode (js_b 168) 159 = .ok (.ifCond .ne 24, 3) := by decide +kernel
set_option maxRecDepth 20000 in
theorem d_168_162 : decode (js_b 168) 162 = .ok (.aload_n 1, 1) := by decide +kernel
set_option maxRecDepth 20000 in
theorem d_168_163 : decode (js_b 168) 163 = .ok (.iload 5, 2) := by decide +kernel
set_option maxRecDepth 20000 in
theorem d_168_165 : decode (js_b 168) 165 = .ok (.bipush 9, 2) := by decide +kernel
set_option maxRecDepth 20000 in
theorem d_168_167 : decode (js_b 168) 167 = .ok (.iushr, 1) := by decide +kernel
set_option maxRecDepth 20000 in
theorem d_168_168 : decode (js_b 168) 168 = .ok (.iload_n 3, 1) := by decide +kernel
set_option maxRecDepth 20000 in
theorem d_168_169 : decode (js_b 168) 169 = .ok (.irem, 1) := by decide +kernel
set_option maxRecDepth 20000 in
theorem d_168_170 : decode (js_b 168) 170 = .ok (.iload 5, 2) := by decide +kernel
set_option maxRecDepth 20000 in
theorem d_168_172 : decode (js_b 168) 172 = .ok (.bipush 13, 2) := by decide +kernel
set_option maxRecDepth 20000 in
theorem d_168_174 : decode (js_b 168) 174 = .ok (.iushr, 1) := by decide +kernel
set_option maxRecDepth 20000 in
theorem d_168_175 : decode (js_b 168) 175 = .ok (.iconst 4, 1) := by decide +kernel
set_option maxRecDepth 20000 in
theorem d_168_176 : decode (js_b 168) 176 = .ok (.irem, 1) := by decide +kernel
set_option maxRecDepth 20000 in
theorem d_168_177 : decode (js_b 168) 177 = .ok (.invokestatic 164, 3) := by decide +kernel
set_option maxRecDepth 20000 in
theorem d_168_180 : decode (js_b 168) 180 = .ok (.goto 37, 3) := by decide +kernel
set_option maxRecDepth 20000 in
theorem d_168_183 : decode (js_b 168) 183 = .ok (.iload 5, 2) := by decide +kernel
set_option maxRecDepth 20000 in
theorem d_168_185 : decode (js_b 168) 185 = .ok (.iconst 4, 1) := by decide +kernel
set_option maxRecDepth 20000 in
theorem d_168_186 : decode (js_b 168) 186 = .ok (.irem, 1) := by decide +kernel
set_option maxRecDepth 20000 in
theorem d_168_187 : decode (js_b 168) 187 = .ok (.iconst 1, 1) := by decide +kernel
set_option maxRecDepth 20000 in
theorem d_168_188 : decode (js_b 168) 188 = .ok (.if_icmp .ne 14, 3) := by decide +kernel
set_option maxRecDepth 20000 in
theorem d_168_191 : decode (js_b 168) 191 = .ok (.aload_n 1, 1) := by decide +kernel
set_option maxRecDepth 20000 in
theorem d_168_192 : decode (js_b 168) 192 = .ok (.iload 6, 2) := by decide +kernel
set_option maxRecDepth 20000 in
theorem d_168_194 : decode (js_b 168) 194 = .ok (.iload 7, 2) := by decide +kernel
set_option maxRecDepth 20000 in
theorem d_168_196 : decode (js_b 168) 196 = .ok (.invokestatic 167, 3) := by decide +kernel
set_option maxRecDepth 20000 in
theorem d_168_199 : decode (js_b 168) 199 = .ok (.goto 18, 3) := by decide +kernel
set_option maxRecDepth 20000 in
theorem d_168_202 : decode (js_b 168) 202 = .ok (.aload_n 1, 1) := by decide +kernel
set_option maxRecDepth 20000 in
theorem d_168_203 : decode (js_b 168) 203 = .ok (.iload 5, 2) := by decide +kernel
set_option maxRecDepth 20000 in
theorem d_168_205 : decode (js_b 168) 205 = .ok (.bipush 9, 2) := by decide +kernel
set_option maxRecDepth 20000 in
theorem d_168_207 : decode (js_b 168) 207 = .ok (.iushr, 1) := by decide +kernel
set_option maxRecDepth 20000 in
theorem d_168_208 : decode (js_b 168) 208 = .ok (.iload_n 3, 1) := by decide +kernel
set_option maxRecDepth 20000 in
theorem d_168_209 : decode (js_b 168) 209 = .ok (.irem, 1) := by decide +kernel
set_option maxRecDepth 20000 in
theorem d_168_210 : decode (js_b 168) 210 = .ok (.iload 6, 2) := by decide +kernel
set_option maxRecDepth 20000 in
theorem d_168_212 : decode (js_b 168) 212 = .ok (.iload 7, 2) := by decide +kernel
set_option maxRecDepth 20000 in
theorem d_168_214 : decode (js_b 168) 214 = .ok (.invokestatic 169, 3) := by decide +kernel
set_option maxRecDepth 20000 in
theorem d_168_217 : decode (js_b 168) 217 = .ok (.istore 8, 2) := by decide +kernel
set_option maxRecDepth 20000 in
theorem d_168_219 : decode (js_b 168) 219 = .ok (.iload 8, 2) := by decide +kernel
set_option maxRecDepth 20000 in
theorem d_168_221 : decode (js_b 168) 221 = .ok (.iconst (-1), 1) := by decide +kernel
set_option maxRecDepth 20000 in
theorem d_168_222 : decode (js_b 168) 222 = .ok (.if_icmp .ne 5, 3) := by decide +kernel
set_option maxRecDepth 20000 in
theorem d_168_225 : decode (js_b 168) 225 = .ok (.aconst_null, 1) := by decide +kernel
set_option maxRecDepth 20000 in
theorem d_168_226 : decode (js_b 168) 226 = .ok (.areturn, 1) := by decide +kernel
set_option maxRecDepth 20000 in
theorem d_168_227 : decode (js_b 168) 227 = .ok (.iinc 4 1, 3) := by decide +kernel
set_option maxRecDepth 20000 in
theorem d_168_230 : decode (js_b 168) 230 = .ok (.goto (-127), 3) := by decide +kernel
set_option maxRecDepth 20000 in
theorem d_168_233 : decode (js_b 168) 233 = .ok (.iload_n 2, 1) := by decide +kernel
set_option maxRecDepth 20000 in
theorem d_168_234 : decode (js_b 168) 234 = .ok (.bipush 11, 2) := by decide +kernel
set_option maxRecDepth 20000 in
theorem d_168_236 : decode (js_b 168) 236 = .ok (.iushr, 1) := by decide +kernel
set_option maxRecDepth 20000 in
theorem d_168_237 : decode (js_b 168) 237 = .ok (.iconst 4, 1) := by decide +kernel
set_option maxRecDepth 20000 in
theorem d_168_238 : decode (js_b 168) 238 = .ok (.irem, 1) := by decide +kernel
set_option maxRecDepth 20000 in
theorem d_168_239 : decode (js_b 168) 239 = .ok (.ifCond .ne 21, 3) := by decide +kernel
set_option maxRecDepth 20000 in
theorem d_168_242 : decode (js_b 168) 242 = .ok (.aload_n 1, 1) := by decide +kernel
set_option maxRecDepth 20000 in
theorem d_168_243 : decode (js_b 168) 243 = .ok (.iload_n 2, 1) := by decide +kernel
set_option maxRecDepth 20000 in
theorem d_168_244 : decode (js_b 168) 244 = .ok (.bipush 13, 2) := by decide +kernel
set_option maxRecDepth 20000 in
theorem d_168_246 : decode (js_b 168) 246 = .ok (.iushr, 1) := by decide +kernel
set_option maxRecDepth 20000 in
theorem d_168_247 : decode (js_b 168) 247 = .ok (.iload_n 3, 1) := by decide +kernel
set_option maxRecDepth 20000 in
theorem d_168_248 : decode (js_b 168) 248 = .ok (.irem, 1) := by decide +kernel
set_option maxRecDepth 20000 in
theorem d_168_249 : decode (js_b 168) 249 = .ok (.invokestatic 172, 3) := by decide +kernel
set_option maxRecDepth 20000 in
theorem d_168_252 : decode (js_b 168) 252 = .ok (.iconst (-1), 1) := by decide +kernel
set_option maxRecDepth 20000 in
theorem d_168_253 : decode (js_b 168) 253 = .ok (.if_icmp .ne 7, 3) := by decide +kernel
set_option maxRecDepth 20000 in
theorem d_168_256 : decode (js_b 168) 256 = .ok (.aconst_null, 1) := by decide +kernel
set_option maxRecDepth 20000 in
theorem d_168_257 : decode (js_b 168) 257 = .ok (.goto 4, 3) := by decide +kernel
set_option maxRecDepth 20000 in
theorem d_168_260 : decode (js_b 168) 260 = .ok (.aload_n 1, 1) := by decide +kernel
set_option maxRecDepth 20000 in
theorem d_168_261 : decode (js_b 168) 261 = .ok (.areturn, 1) := by decide +kernel
theorem ki_168_15 : js_OkG 168 15 (o_is 2 16) := js_St.okG (st_istoren rfl (Nat.le_of_ble_eq_true rfl) d_168_15) (fun _ _ _ _ _ => rfl)
theorem ki_168_14 : js_OkG 168 14 (o_b2 (fun x y => (x.toUInt32 >>> (y.toUInt32 &&& Int32.toUInt32 31)).toInt32) 15) := js_St.okG (st_iushr d_168_14) (fun _ _ _ _ _ => rfl)
theorem ki_168_13 : js_OkG 168 13 (o_ic 1 14) := js_St.okG (st_iconst rfl d_168_13) (fun _ _ _ _ _ => rfl)
theorem ki_168_10 : js_OkG 168 10 (o_cI 165 2 0 13) := og_sIP rfl rfl kB_168_165 rfl kw_263 kw_264 d_168_10
theorem ki_168_9 : js_OkG 168 9 (o_ic 0 10) := js_St.okG (st_iconst rfl d_168_9) (fun _ _ _ _ _ => rfl)
theorem ki_168_8 : js_OkG 168 8 (o_al 0 9) := js_St.okG (st_aloadn rfl d_168_8) (fun _ _ _ _ _ => rfl)
theorem ki_168_7 : js_OkG 168 7 (o_as 1 8) := js_St.okG (st_astoren rfl (Nat.le_of_ble_eq_true rfl) d_168_7) (fun _ _ _ _ _ => rfl)
theorem ki_168_4 : js_OkG 168 4 (o_cV 59 1 8 7) := og_cV (site_I kk_168_59 (by decide) rfl rfl kw_62 kw_63 d_168_4) rfl rfl
theorem ki_168_3 : js_OkG 168 3 (o_dup 4) := js_St.okG (st_dup d_168_3) (fun _ _ _ _ _ => rfl)
theorem ki_168_0 : js_OkG 168 0 (o_new 7 [.null, .null, .int 0, .null, .null, .null, .null, .null, .int 0, .int 0, .int 0] 3) := js_St.okG (st_new js_c7 rfl (by decide +kernel) (fun _ => rfl) kw_60 kw_61 kw_22 d_168_0) (fun _ _ _ _ _ => rfl)
theorem ki_168_29 : js_OkG 168 29 (o_cge 100 32) := js_St.okG (st_icge (by decide) d_168_29) (fun _ _ _ _ _ => rfl)
theorem ki_168_28 : js_OkG 168 28 (o_il 3 29) := js_St.okG (st_iloadn rfl d_168_28) (fun _ _ _ _ _ => rfl)
theorem ki_168_26 : js_OkG 168 26 (o_il 4 28) := js_St.okG (st_iload d_168_26) (fun _ _ _ _ _ => rfl)
theorem ki_168_24 : js_OkG 168 24 (o_is 4 26) := js_St.okG (st_istore (Nat.le_of_ble_eq_true rfl) d_168_24) (fun _ _ _ _ _ => rfl)
theorem ki_168_23 : js_OkG 168 23 (o_ic 0 24) := js_St.okG (st_iconst rfl d_168_23) (fun _ _ _ _ _ => rfl)
theorem ki_168_22 : js_OkG 168 22 (o_is 3 23) := js_St.okG (st_istoren rfl (Nat.le_of_ble_eq_true rfl) d_168_22) (fun _ _ _ _ _ => rfl)
theorem ki_168_21 : js_OkG 168 21 (o_b2 (fun x y => x + y) 22) := js_St.okG (st_iadd d_168_21) (fun _ _ _ _ _ => rfl)
theorem ki_168_20 : js_OkG 168 20 (o_rem 21) := js_St.okG (st_irem d_168_20) (fun _ _ _ _ _ => rfl)
theorem ki_168_18 : js_OkG 168 18 (o_ic 9 20) := js_St.okG (st_bipush rfl d_168_18) (fun _ _ _ _ _ => rfl)
theorem ki_168_17 : js_OkG 168 17 (o_il 2 18) := js_St.okG (st_iloadn rfl d_168_17) (fun _ _ _ _ _ => rfl)
theorem ki_168_16 : js_OkG 168 16 (o_ic 4 17) := js_St.okG (st_iconst rfl d_168_16) (fun _ _ _ _ _ => rfl)
theorem ki_168_47 : js_OkG 168 47 (o_il 5 49) := js_St.okG (st_iload d_168_47) (fun _ _ _ _ _ => rfl)
theorem ki_168_45 : js_OkG 168 45 (o_ic 97 47) := js_St.okG (st_bipush rfl d_168_45) (fun _ _ _ _ _ => rfl)
theorem ki_168_44 : js_OkG 168 44 (o_al 1 45) := js_St.okG (st_aloadn rfl d_168_44) (fun _ _ _ _ _ => rfl)
theorem ki_168_42 : js_OkG 168 42 (o_is 5 44) := js_St.okG (st_istore (Nat.le_of_ble_eq_true rfl) d_168_42) (fun _ _ _ _ _ => rfl)
theorem ki_168_41 : js_OkG 168 41 (o_b2 (fun x y => (x.toUInt32 >>> (y.toUInt32 &&& Int32.toUInt32 31)).toInt32) 42) := js_St.okG (st_iushr d_168_41) (fun _ _ _ _ _ => rfl)
theorem ki_168_40 : js_OkG 168 40 (o_ic 1 41) := js_St.okG (st_iconst rfl d_168_40) (fun _ _ _ _ _ => rfl)
theorem ki_168_37 : js_OkG 168 37 (o_cI 165 2 0 40) := og_sIP rfl rfl kB_168_165 rfl kw_263 kw_264 d_168_37
theorem ki_168_36 : js_OkG 168 36 (o_b2 (fun x y => x + y) 37) := js_St.okG (st_iadd d_168_36) (fun _ _ _ _ _ => rfl)
theorem ki_168_34 : js_OkG 168 34 (o_il 4 36) := js_St.okG (st_iload d_168_34) (fun _ _ _ _ _ => rfl)
theorem ki_168_33 : js_OkG 168 33 (o_ic 1 34) := js_St.okG (st_iconst rfl d_168_33) (fun _ _ _ _ _ => rfl)
theorem ki_168_32 : js_OkG 168 32 (o_al 0 33) := js_St.okG (st_aloadn rfl d_168_32) (fun _ _ _ _ _ => rfl)
theorem ki_168_62 : js_OkG 168 62 (o_ic 8 64) := js_St.okG (st_bipush rfl d_168_62) (fun _ _ _ _ _ => rfl)
theorem ki_168_60 : js_OkG 168 60 (o_il 5 62) := js_St.okG (st_iload d_168_60) (fun _ _ _ _ _ => rfl)
theorem ki_168_57 : js_OkG 168 57 (o_cI 167 1 0 60) := og_sIP rfl rfl kB_168_167 rfl kw_267 kw_268 d_168_57
theorem ki_168_56 : js_OkG 168 56 (o_b2 (fun x y => (x.toUInt32 >>> (y.toUInt32 &&& Int32.toUInt32 31)).toInt32) 57) := js_St.okG (st_iushr d_168_56) (fun _ _ _ _ _ => rfl)
theorem ki_168_55 : js_OkG 168 55 (o_ic 2 56) := js_St.okG (st_iconst rfl d_168_55) (fun _ _ _ _ _ => rfl)
theorem ki_168_53 : js_OkG 168 53 (o_il 5 55) := js_St.okG (st_iload d_168_53) (fun _ _ _ _ _ => rfl)
theorem ki_168_52 : js_OkG 168 52 (o_u (fun x => (x.toUInt32 % 65536).toInt32) 53) := js_St.okG (st_i2c d_168_52) (fun _ _ _ _ _ => rfl)
theorem ki_168_51 : js_OkG 168 51 (o_b2 (fun x y => x + y) 52) := js_St.okG (st_iadd d_168_51) (fun _ _ _ _ _ => rfl)
theorem ki_168_50 : js_OkG 168 50 (o_rem 51) := js_St.okG (st_irem d_168_50) (fun _ _ _ _ _ => rfl)
theorem ki_168_49 : js_OkG 168 49 (o_ic 3 50) := js_St.okG (st_iconst rfl d_168_49) (fun _ _ _ _ _ => rfl)
theorem ki_168_78 : js_OkG 168 78 (o_ic 20 80) := js_St.okG (st_bipush rfl d_168_78) (fun _ _ _ _ _ => rfl)
theorem ki_168_76 : js_OkG 168 76 (o_il 5 78) := js_St.okG (st_iload d_168_76) (fun _ _ _ _ _ => rfl)
theorem ki_168_73 : js_OkG 168 73 (o_cI 167 1 0 76) := og_sIP rfl rfl kB_168_167 rfl kw_267 kw_268 d_168_73
theorem ki_168_72 : js_OkG 168 72 (o_b2 (fun x y => (x.toUInt32 >>> (y.toUInt32 &&& Int32.toUInt32 31)).toInt32) 73) := js_St.okG (st_iushr d_168_72) (fun _ _ _ _ _ => rfl)
theorem ki_168_70 : js_OkG 168 70 (o_ic 14 72) := js_St.okG (st_bipush rfl d_168_70) (fun _ _ _ _ _ => rfl)
theorem ki_168_68 : js_OkG 168 68 (o_il 5 70) := js_St.okG (st_iload d_168_68) (fun _ _ _ _ _ => rfl)
theorem ki_168_65 : js_OkG 168 65 (o_cI 167 1 0 68) := og_sIP rfl rfl kB_168_167 rfl kw_267 kw_268 d_168_65
theorem ki_168_64 : js_OkG 168 64 (o_b2 (fun x y => (x.toUInt32 >>> (y.toUInt32 &&& Int32.toUInt32 31)).toInt32) 65) := js_St.okG (st_iushr d_168_64) (fun _ _ _ _ _ => rfl)
theorem ki_168_94 : js_OkG 168 94 (o_inc 4 1 97) := js_St.okG (st_iinc rfl (Nat.le_of_ble_eq_true rfl) d_168_94) (fun _ _ _ _ _ => rfl)
theorem ki_168_93 : js_OkG 168 93 (o_rA) := og_rA ⟨_, rfl⟩ d_168_93
theorem ki_168_92 : js_OkG 168 92 (o_nc 93) := js_St.okG (st_null d_168_92) (fun _ _ _ _ _ => rfl)
theorem ki_168_89 : js_OkG 168 89 (o_ceq 94 92) := js_St.okG (st_iceq (by decide) d_168_89) (fun _ _ _ _ _ => rfl)
theorem ki_168_87 : js_OkG 168 87 (o_il 4 89) := js_St.okG (st_iload d_168_87) (fun _ _ _ _ _ => rfl)
theorem ki_168_84 : js_OkG 168 84 (o_cI 133 6 0 87) := og_sIW rfl rfl kB_168_133 rfl kw_270 kw_271 d_168_84
theorem ki_168_81 : js_OkG 168 81 (o_cI 167 1 0 84) := og_sIP rfl rfl kB_168_167 rfl kw_267 kw_268 d_168_81
theorem ki_168_80 : js_OkG 168 80 (o_b2 (fun x y => (x.toUInt32 >>> (y.toUInt32 &&& Int32.toUInt32 31)).toInt32) 81) := js_St.okG (st_iushr d_168_80) (fun _ _ _ _ _ => rfl)
theorem ki_168_111 : js_OkG 168 111 (o_ic 13 113) := js_St.okG (st_bipush rfl d_168_111) (fun _ _ _ _ _ => rfl)
theorem ki_168_110 : js_OkG 168 110 (o_al 0 111) := js_St.okG (st_aloadn rfl d_168_110) (fun _ _ _ _ _ => rfl)
theorem ki_168_107 : js_OkG 168 107 (o_cge 233 110) := js_St.okG (st_icge (by decide) d_168_107) (fun _ _ _ _ _ => rfl)
theorem ki_168_105 : js_OkG 168 105 (o_ic 9 107) := js_St.okG (st_bipush rfl d_168_105) (fun _ _ _ _ _ => rfl)
theorem ki_168_103 : js_OkG 168 103 (o_il 4 105) := js_St.okG (st_iload d_168_103) (fun _ _ _ _ _ => rfl)
theorem ki_168_101 : js_OkG 168 101 (o_is 4 103) := js_St.okG (st_istore (Nat.le_of_ble_eq_true rfl) d_168_101) (fun _ _ _ _ _ => rfl)
theorem ki_168_100 : js_OkG 168 100 (o_ic 0 101) := js_St.okG (st_iconst rfl d_168_100) (fun _ _ _ _ _ => rfl)
theorem ki_168_97 : js_OkG 168 97 (o_go 26) := js_St.okG (st_goto (by decide) d_168_97) (fun _ _ _ _ _ => rfl)
theorem ki_168_126 : js_OkG 168 126 (o_ic 6 128) := js_St.okG (st_bipush rfl d_168_126) (fun _ _ _ _ _ => rfl)
theorem ki_168_125 : js_OkG 168 125 (o_b2 (fun x y => (x.toUInt32 >>> (y.toUInt32 &&& Int32.toUInt32 31)).toInt32) 126) := js_St.okG (st_iushr d_168_125) (fun _ _ _ _ _ => rfl)
theorem ki_168_124 : js_OkG 168 124 (o_ic 4 125) := js_St.okG (st_iconst rfl d_168_124) (fun _ _ _ _ _ => rfl)
theorem ki_168_123 : js_OkG 168 123 (o_il 2 124) := js_St.okG (st_iloadn rfl d_168_123) (fun _ _ _ _ _ => rfl)
theorem ki_168_121 : js_OkG 168 121 (o_is 5 123) := js_St.okG (st_istore (Nat.le_of_ble_eq_true rfl) d_168_121) (fun _ _ _ _ _ => rfl)
theorem ki_168_120 : js_OkG 168 120 (o_b2 (fun x y => (x.toUInt32 >>> (y.toUInt32 &&& Int32.toUInt32 31)).toInt32) 121) := js_St.okG (st_iushr d_168_120) (fun _ _ _ _ _ => rfl)
theorem ki_168_119 : js_OkG 168 119 (o_ic 1 120) := js_St.okG (st_iconst rfl d_168_119) (fun _ _ _ _ _ => rfl)
theorem ki_168_116 : js_OkG 168 116 (o_cI 165 2 0 119) := og_sIP rfl rfl kB_168_165 rfl kw_263 kw_264 d_168_116
theorem ki_168_115 : js_OkG 168 115 (o_b2 (fun x y => x + y) 116) := js_St.okG (st_iadd d_168_115) (fun _ _ _ _ _ => rfl)
theorem ki_168_113 : js_OkG 168 113 (o_il 4 115) := js_St.okG (st_iload d_168_113) (fun _ _ _ _ _ => rfl)
theorem ki_168_142 : js_OkG 168 142 (o_ic 6 144) := js_St.okG (st_bipush rfl d_168_142) (fun _ _ _ _ _ => rfl)
theorem ki_168_141 : js_OkG 168 141 (o_b2 (fun x y => (x.toUInt32 >>> (y.toUInt32 &&& Int32.toUInt32 31)).toInt32) 142) := js_St.okG (st_iushr d_168_141) (fun _ _ _ _ _ => rfl)
theorem ki_168_139 : js_OkG 168 139 (o_ic 7 141) := js_St.okG (st_bipush rfl d_168_139) (fun _ _ _ _ _ => rfl)
theorem ki_168_138 : js_OkG 168 138 (o_il 2 139) := js_St.okG (st_iloadn rfl d_168_138) (fun _ _ _ _ _ => rfl)
theorem ki_168_136 : js_OkG 168 136 (o_is 6 138) := js_St.okG (st_istore (Nat.le_of_ble_eq_true rfl) d_168_136) (fun _ _ _ _ _ => rfl)
theorem ki_168_135 : js_OkG 168 135 (o_b2 (fun x y => x + y) 136) := js_St.okG (st_iadd d_168_135) (fun _ _ _ _ _ => rfl)
theorem ki_168_134 : js_OkG 168 134 (o_rem 135) := js_St.okG (st_irem d_168_134) (fun _ _ _ _ _ => rfl)
theorem ki_168_133 : js_OkG 168 133 (o_ic 3 134) := js_St.okG (st_iconst rfl d_168_133) (fun _ _ _ _ _ => rfl)
theorem ki_168_132 : js_OkG 168 132 (o_b2 (fun x y => (x.toUInt32 >>> (y.toUInt32 &&& Int32.toUInt32 31)).toInt32) 133) := js_St.okG (st_iushr d_168_132) (fun _ _ _ _ _ => rfl)
theorem ki_168_131 : js_OkG 168 131 (o_ic 4 132) := js_St.okG (st_iconst rfl d_168_131) (fun _ _ _ _ _ => rfl)
theorem ki_168_129 : js_OkG 168 129 (o_il 5 131) := js_St.okG (st_iload d_168_129) (fun _ _ _ _ _ => rfl)
theorem ki_168_128 : js_OkG 168 128 (o_rem 129) := js_St.okG (st_irem d_168_128) (fun _ _ _ _ _ => rfl)
theorem ki_168_159 : js_OkG 168 159 (o_ne 183 162) := js_St.okG (st_ifne (by decide) d_168_159) (fun _ _ _ _ _ => rfl)
theorem ki_168_158 : js_OkG 168 158 (o_rem 159) := js_St.okG (st_irem d_168_158) (fun _ _ _ _ _ => rfl)
theorem ki_168_157 : js_OkG 168 157 (o_ic 4 158) := js_St.okG (st_iconst rfl d_168_157) (fun _ _ _ _ _ => rfl)
theorem ki_168_155 : js_OkG 168 155 (o_il 5 157) := js_St.okG (st_iload d_168_155) (fun _ _ _ _ _ => rfl)
theorem ki_168_153 : js_OkG 168 153 (o_is 7 155) := js_St.okG (st_istore (Nat.le_of_ble_eq_true rfl) d_168_153) (fun _ _ _ _ _ => rfl)
theorem ki_168_152 : js_OkG 168 152 (o_b2 (fun x y => x + y) 153) := js_St.okG (st_iadd d_168_152) (fun _ _ _ _ _ => rfl)
theorem ki_168_151 : js_OkG 168 151 (o_rem 152) := js_St.okG (st_irem d_168_151) (fun _ _ _ _ _ => rfl)
theorem ki_168_150 : js_OkG 168 150 (o_ic 3 151) := js_St.okG (st_iconst rfl d_168_150) (fun _ _ _ _ _ => rfl)
theorem ki_168_149 : js_OkG 168 149 (o_b2 (fun x y => (x.toUInt32 >>> (y.toUInt32 &&& Int32.toUInt32 31)).toInt32) 150) := js_St.okG (st_iushr d_168_149) (fun _ _ _ _ _ => rfl)
theorem ki_168_147 : js_OkG 168 147 (o_ic 6 149) := js_St.okG (st_bipush rfl d_168_147) (fun _ _ _ _ _ => rfl)
theorem ki_168_145 : js_OkG 168 145 (o_il 5 147) := js_St.okG (st_iload d_168_145) (fun _ _ _ _ _ => rfl)
theorem ki_168_144 : js_OkG 168 144 (o_rem 145) := js_St.okG (st_irem d_168_144) (fun _ _ _ _ _ => rfl)
theorem ki_168_175 : js_OkG 168 175 (o_ic 4 176) := js_St.okG (st_iconst rfl d_168_175) (fun _ _ _ _ _ => rfl)
theorem ki_168_174 : js_OkG 168 174 (o_b2 (fun x y => (x.toUInt32 >>> (y.toUInt32 &&& Int32.toUInt32 31)).toInt32) 175) := js_St.okG (st_iushr d_168_174) (fun _ _ _ _ _ => rfl)
theorem ki_168_172 : js_OkG 168 172 (o_ic 13 174) := js_St.okG (st_bipush rfl d_168_172) (fun _ _ _ _ _ => rfl)
theorem ki_168_170 : js_OkG 168 170 (o_il 5 172) := js_St.okG (st_iload d_168_170) (fun _ _ _ _ _ => rfl)
theorem ki_168_169 : js_OkG 168 169 (o_rem 170) := js_St.okG (st_irem d_168_169) (fun _ _ _ _ _ => rfl)
theorem ki_168_168 : js_OkG 168 168 (o_il 3 169) := js_St.okG (st_iloadn rfl d_168_168) (fun _ _ _ _ _ => rfl)
theorem ki_168_167 : js_OkG 168 167 (o_b2 (fun x y => (x.toUInt32 >>> (y.toUInt32 &&& Int32.toUInt32 31)).toInt32) 168) := js_St.okG (st_iushr d_168_167) (fun _ _ _ _ _ => rfl)
theorem ki_168_165 : js_OkG 168 165 (o_ic 9 167) := js_St.okG (st_bipush rfl d_168_165) (fun _ _ _ _ _ => rfl)
theorem ki_168_163 : js_OkG 168 163 (o_il 5 165) := js_St.okG (st_iload d_168_163) (fun _ _ _ _ _ => rfl)
theorem ki_168_162 : js_OkG 168 162 (o_al 1 163) := js_St.okG (st_aloadn rfl d_168_162) (fun _ _ _ _ _ => rfl)
theorem ki_168_191 : js_OkG 168 191 (o_al 1 192) := js_St.okG (st_aloadn rfl d_168_191) (fun _ _ _ _ _ => rfl)
theorem ki_168_188 : js_OkG 168 188 (o_cne 202 191) := js_St.okG (st_icne (by decide) d_168_188) (fun _ _ _ _ _ => rfl)
theorem ki_168_187 : js_OkG 168 187 (o_ic 1 188) := js_St.okG (st_iconst rfl d_168_187) (fun _ _ _ _ _ => rfl)
theorem ki_168_186 : js_OkG 168 186 (o_rem 187) := js_St.okG (st_irem d_168_186) (fun _ _ _ _ _ => rfl)
theorem ki_168_185 : js_OkG 168 185 (o_ic 4 186) := js_St.okG (st_iconst rfl d_168_185) (fun _ _ _ _ _ => rfl)
theorem ki_168_183 : js_OkG 168 183 (o_il 5 185) := js_St.okG (st_iload d_168_183) (fun _ _ _ _ _ => rfl)
theorem ki_168_180 : js_OkG 168 180 (o_go 217) := js_St.okG (st_goto (by decide) d_168_180) (fun _ _ _ _ _ => rfl)
theorem ki_168_177 : js_OkG 168 177 (o_cI 143 3 0 180) := og_sIW rfl rfl kB_168_143 rfl kw_446 kw_447 d_168_177
theorem ki_168_176 : js_OkG 168 176 (o_rem 177) := js_St.okG (st_irem d_168_176) (fun _ _ _ _ _ => rfl)
theorem ki_168_207 : js_OkG 168 207 (o_b2 (fun x y => (x.toUInt32 >>> (y.toUInt32 &&& Int32.toUInt32 31)).toInt32) 208) := js_St.okG (st_iushr d_168_207) (fun _ _ _ _ _ => rfl)
theorem ki_168_205 : js_OkG 168 205 (o_ic 9 207) := js_St.okG (st_bipush rfl d_168_205) (fun _ _ _ _ _ => rfl)
theorem ki_168_203 : js_OkG 168 203 (o_il 5 205) := js_St.okG (st_iload d_168_203) (fun _ _ _ _ _ => rfl)
theorem ki_168_202 : js_OkG 168 202 (o_al 1 203) := js_St.okG (st_aloadn rfl d_168_202) (fun _ _ _ _ _ => rfl)
theorem ki_168_199 : js_OkG 168 199 (o_go 217) := js_St.okG (st_goto (by decide) d_168_199) (fun _ _ _ _ _ => rfl)
theorem ki_168_196 : js_OkG 168 196 (o_cI 145 3 0 199) := og_sIW rfl rfl kB_168_145 rfl kw_466 kw_467 d_168_196
theorem ki_168_194 : js_OkG 168 194 (o_il 7 196) := js_St.okG (st_iload d_168_194) (fun _ _ _ _ _ => rfl)
theorem ki_168_192 : js_OkG 168 192 (o_il 6 194) := js_St.okG (st_iload d_168_192) (fun _ _ _ _ _ => rfl)
theorem ki_168_222 : js_OkG 168 222 (o_cne 227 225) := js_St.okG (st_icne (by decide) d_168_222) (fun _ _ _ _ _ => rfl)
theorem ki_168_221 : js_OkG 168 221 (o_ic (-1) 222) := js_St.okG (st_iconst rfl d_168_221) (fun _ _ _ _ _ => rfl)
theorem ki_168_219 : js_OkG 168 219 (o_il 8 221) := js_St.okG (st_iload d_168_219) (fun _ _ _ _ _ => rfl)
theorem ki_168_217 : js_OkG 168 217 (o_is 8 219) := js_St.okG (st_istore (Nat.le_of_ble_eq_true rfl) d_168_217) (fun _ _ _ _ _ => rfl)
theorem ki_168_214 : js_OkG 168 214 (o_cI 141 4 0 217) := og_sIW rfl rfl kB_168_141 rfl kw_588 kw_589 d_168_214
theorem ki_168_212 : js_OkG 168 212 (o_il 7 214) := js_St.okG (st_iload d_168_212) (fun _ _ _ _ _ => rfl)
theorem ki_168_210 : js_OkG 168 210 (o_il 6 212) := js_St.okG (st_iload d_168_210) (fun _ _ _ _ _ => rfl)
theorem ki_168_209 : js_OkG 168 209 (o_rem 210) := js_St.okG (st_irem d_168_209) (fun _ _ _ _ _ => rfl)
theorem ki_168_208 : js_OkG 168 208 (o_il 3 209) := js_St.okG (st_iloadn rfl d_168_208) (fun _ _ _ _ _ => rfl)
theorem ki_168_239 : js_OkG 168 239 (o_ne 260 242) := js_St.okG (st_ifne (by decide) d_168_239) (fun _ _ _ _ _ => rfl)
theorem ki_168_238 : js_OkG 168 238 (o_rem 239) := js_St.okG (st_irem d_168_238) (fun _ _ _ _ _ => rfl)
theorem ki_168_237 : js_OkG 168 237 (o_ic 4 238) := js_St.okG (st_iconst rfl d_168_237) (fun _ _ _ _ _ => rfl)
theorem ki_168_236 : js_OkG 168 236 (o_b2 (fun x y => (x.toUInt32 >>> (y.toUInt32 &&& Int32.toUInt32 31)).toInt32) 237) := js_St.okG (st_iushr d_168_236) (fun _ _ _ _ _ => rfl)
theorem ki_168_234 : js_OkG 168 234 (o_ic 11 236) := js_St.okG (st_bipush rfl d_168_234) (fun _ _ _ _ _ => rfl)
theorem ki_168_233 : js_OkG 168 233 (o_il 2 234) := js_St.okG (st_iloadn rfl d_168_233) (fun _ _ _ _ _ => rfl)
theorem ki_168_230 : js_OkG 168 230 (o_go 103) := js_St.okG (st_goto (by decide) d_168_230) (fun _ _ _ _ _ => rfl)
theorem ki_168_227 : js_OkG 168 227 (o_inc 4 1 230) := js_St.okG (st_iinc rfl (Nat.le_of_ble_eq_true rfl) d_168_227) (fun _ _ _ _ _ => rfl)
theorem ki_168_226 : js_OkG 168 226 (o_rA) := og_rA ⟨_, rfl⟩ d_168_226
theorem ki_168_225 : js_OkG 168 225 (o_nc 226) := js_St.okG (st_null d_168_225) (fun _ _ _ _ _ => rfl)
theorem ki_168_253 : js_OkG 168 253 (o_cne 260 256) := js_St.okG (st_icne (by decide) d_168_253) (fun _ _ _ _ _ => rfl)
theorem ki_168_252 : js_OkG 168 252 (o_ic (-1) 253) := js_St.okG (st_iconst rfl d_168_252) (fun _ _ _ _ _ => rfl)
theorem ki_168_249 : js_OkG 168 249 (o_cI 142 2 0 252) := og_sIW rfl rfl kB_168_142 rfl kw_610 kw_611 d_168_249
theorem ki_168_248 : js_OkG 168 248 (o_rem 249) := js_St.okG (st_irem d_168_248) (fun _ _ _ _ _ => rfl)
theorem ki_168_247 : js_OkG 168 247 (o_il 3 248) := js_St.okG (st_iloadn rfl d_168_247) (fun _ _ _ _ _ => rfl)
theorem ki_168_246 : js_OkG 168 246 (o_b2 (fun x y => (x.toUInt32 >>> (y.toUInt32 &&& Int32.toUInt32 31)).toInt32) 247) := js_St.okG (st_iushr d_168_246) (fun _ _ _ _ _ => rfl)
theorem ki_168_244 : js_OkG 168 244 (o_ic 13 246) := js_St.okG (st_bipush rfl d_168_244) (fun _ _ _ _ _ => rfl)
theorem ki_168_243 : js_OkG 168 243 (o_il 2 244) := js_St.okG (st_iloadn rfl d_168_243) (fun _ _ _ _ _ => rfl)
theorem ki_168_242 : js_OkG 168 242 (o_al 1 243) := js_St.okG (st_aloadn rfl d_168_242) (fun _ _ _ _ _ => rfl)
theorem ki_168_261 : js_OkG 168 261 (o_rA) := og_rA ⟨_, rfl⟩ d_168_261
theorem ki_168_260 : js_OkG 168 260 (o_al 1 261) := js_St.okG (st_aloadn rfl d_168_260) (fun _ _ _ _ _ => rfl)
theorem ki_168_257 : js_OkG 168 257 (o_go 261) := js_St.okG (st_goto (by decide) d_168_257) (fun _ _ _ _ _ => rfl)
theorem ki_168_256 : js_OkG 168 256 (o_nc 257) := js_St.okG (st_null d_168_256) (fun _ _ _ _ _ => rfl)
set_option maxRecDepth 20000 in
theorem mk_168 : js_mokG 168 := jk_tab (fun _ => js_St.okG st_bad (fun _ _ _ _ _ => rfl)) (show jk_all (js_OkG 168) 0 tb_168 from ⟨⟨ki_168_0, ⟨kbadG, ⟨kbadG, ⟨ki_168_3, ⟨ki_168_4, ⟨kbadG, ⟨kbadG, ⟨ki_168_7, ⟨ki_168_8, ⟨ki_168_9, ⟨ki_168_10, ⟨kbadG, ⟨kbadG, ⟨ki_168_13, ⟨ki_168_14, ⟨ki_168_15, trivial⟩⟩⟩⟩⟩⟩⟩⟩⟩⟩⟩⟩⟩⟩⟩⟩, ⟨⟨ki_168_16, ⟨ki_168_17, ⟨ki_168_18, ⟨kbadG, ⟨ki_168_20, ⟨ki_168_21, ⟨ki_168_22, ⟨ki_168_23, ⟨ki_168_24, ⟨kbadG, ⟨ki_168_26, ⟨kbadG, ⟨ki_168_28, ⟨ki_168_29, ⟨kbadG, ⟨kbadG, trivial⟩⟩⟩⟩⟩⟩⟩⟩⟩⟩⟩⟩⟩⟩⟩⟩, ⟨⟨ki_168_32, ⟨ki_168_33, ⟨ki_168_34, ⟨kbadG, ⟨ki_168_36, ⟨ki_168_37, ⟨kbadG, ⟨kbadG, ⟨ki_168_40, ⟨ki_168_41, ⟨ki_168_42, ⟨kbadG, ⟨ki_168_44, ⟨ki_168_45, ⟨kbadG, ⟨ki_168_47, trivial⟩⟩⟩⟩⟩⟩⟩⟩⟩⟩⟩⟩⟩⟩⟩⟩, ⟨⟨kbadG, ⟨ki_168_49, ⟨ki_168_50, ⟨ki_168_51, ⟨ki_168_52, ⟨ki_168_53, ⟨kbadG, ⟨ki_168_55, ⟨ki_168_56, ⟨ki_168_57, ⟨kbadG, ⟨kbadG, ⟨ki_168_60, ⟨kbadG, ⟨ki_168_62, ⟨kbadG, trivial⟩⟩⟩⟩⟩⟩⟩⟩⟩⟩⟩⟩⟩⟩⟩⟩, ⟨⟨ki_168_64, ⟨ki_168_65, ⟨kbadG, ⟨kbadG, ⟨ki_168_68, ⟨kbadG, ⟨ki_168_70, ⟨kbadG, ⟨ki_168_72, ⟨ki_168_73, ⟨kbadG, ⟨kbadG, ⟨ki_168_76, ⟨kbadG, ⟨ki_168_78, ⟨kbadG, trivial⟩⟩⟩⟩⟩⟩⟩⟩⟩⟩⟩⟩⟩⟩⟩⟩, ⟨⟨ki_168_80, ⟨ki_168_81, ⟨kbadG, ⟨kbadG, ⟨ki_168_84, ⟨kbadG, ⟨kbadG, ⟨ki_168_87, ⟨kbadG, ⟨ki_168_89, ⟨kbadG, ⟨kbadG, ⟨ki_168_92, ⟨ki_168_93, ⟨ki_168_94, ⟨kbadG, trivial⟩⟩⟩⟩⟩⟩⟩⟩⟩⟩⟩⟩⟩⟩⟩⟩, ⟨⟨kbadG, ⟨ki_168_97, ⟨kbadG, ⟨kbadG, ⟨ki_168_100, ⟨ki_168_101, ⟨kbadG, ⟨ki_168_103, ⟨kbadG, ⟨ki_168_105, ⟨kbadG, ⟨ki_168_107, ⟨kbadG, ⟨kbadG, ⟨ki_168_110, ⟨ki_168_111, trivial⟩⟩⟩⟩⟩⟩⟩⟩⟩⟩⟩⟩⟩⟩⟩⟩, ⟨⟨kbadG, ⟨ki_168_113, ⟨kbadG, ⟨ki_168_115, ⟨ki_168_116, ⟨kbadG, ⟨kbadG, ⟨ki_168_119, ⟨ki_168_120, ⟨ki_168_121, ⟨kbadG, ⟨ki_168_123, ⟨ki_168_124, ⟨ki_168_125, ⟨ki_168_126, ⟨kbadG, trivial⟩⟩⟩⟩⟩⟩⟩⟩⟩⟩⟩⟩⟩⟩⟩⟩, ⟨⟨ki_168_128, ⟨ki_168_129, ⟨kbadG, ⟨ki_168_131, ⟨ki_168_132, ⟨ki_168_133, ⟨ki_168_134, ⟨ki_168_135, ⟨ki_168_136, ⟨kbadG, ⟨ki_168_138, ⟨ki_168_139, ⟨kbadG, ⟨ki_168_141, ⟨ki_168_142, ⟨kbadG, trivial⟩⟩⟩⟩⟩⟩⟩⟩⟩⟩⟩⟩⟩⟩⟩⟩, ⟨⟨ki_168_144, ⟨ki_168_145, ⟨kbadG, ⟨ki_168_147, ⟨kbadG, ⟨ki_168_149, ⟨ki_168_150, ⟨ki_168_151, ⟨ki_168_152, ⟨ki_168_153, ⟨kbadG, ⟨ki_168_155, ⟨kbadG, ⟨ki_168_157, ⟨ki_168_158, ⟨ki_168_159, trivial⟩⟩⟩⟩⟩⟩⟩⟩⟩⟩⟩⟩⟩⟩⟩⟩, ⟨⟨kbadG, ⟨kbadG, ⟨ki_168_162, ⟨ki_168_163, ⟨kbadG, ⟨ki_168_165, ⟨kbadG, ⟨ki_168_167, ⟨ki_168_168, ⟨ki_168_169, ⟨ki_168_170, ⟨kbadG, ⟨ki_168_172, ⟨kbadG, ⟨ki_168_174, ⟨ki_168_175, trivial⟩⟩⟩⟩⟩⟩⟩⟩⟩⟩⟩⟩⟩⟩⟩⟩, ⟨⟨ki_168_176, ⟨ki_168_177, ⟨kbadG, ⟨kbadG, ⟨ki_168_180, ⟨kbadG, ⟨kbadG, ⟨ki_168_183, ⟨kbadG, ⟨ki_168_185, ⟨ki_168_186, ⟨ki_168_187, ⟨ki_168_188, ⟨kbadG, ⟨kbadG, ⟨ki_168_191, trivial⟩⟩⟩⟩⟩⟩⟩⟩⟩⟩⟩⟩⟩⟩⟩⟩, ⟨⟨ki_168_192, ⟨kbadG, ⟨ki_168_194, ⟨kbadG, ⟨ki_168_196, ⟨kbadG, ⟨kbadG, ⟨ki_168_199, ⟨kbadG, ⟨kbadG, ⟨ki_168_202, ⟨ki_168_203, ⟨kbadG, ⟨ki_168_205, ⟨kbadG, ⟨ki_168_207, trivial⟩⟩⟩⟩⟩⟩⟩⟩⟩⟩⟩⟩⟩⟩⟩⟩, ⟨⟨ki_168_208, ⟨ki_168_209, ⟨ki_168_210, ⟨kbadG, ⟨ki_168_212, ⟨kbadG, ⟨ki_168_214, ⟨kbadG, ⟨kbadG, ⟨ki_168_217, ⟨kbadG, ⟨ki_168_219, ⟨kbadG, ⟨ki_168_221, ⟨ki_168_222, ⟨kbadG, trivial⟩⟩⟩⟩⟩⟩⟩⟩⟩⟩⟩⟩⟩⟩⟩⟩, ⟨⟨kbadG, ⟨ki_168_225, ⟨ki_168_226, ⟨ki_168_227, ⟨kbadG, ⟨kbadG, ⟨ki_168_230, ⟨kbadG, ⟨kbadG, ⟨ki_168_233, ⟨ki_168_234, ⟨kbadG, ⟨ki_168_236, ⟨ki_168_237, ⟨ki_168_238, ⟨ki_168_239, trivial⟩⟩⟩⟩⟩⟩⟩⟩⟩⟩⟩⟩⟩⟩⟩⟩, ⟨⟨kbadG, ⟨kbadG, ⟨ki_168_242, ⟨ki_168_243, ⟨ki_168_244, ⟨kbadG, ⟨ki_168_246, ⟨ki_168_247, ⟨ki_168_248, ⟨ki_168_249, ⟨kbadG, ⟨kbadG, ⟨ki_168_252, ⟨ki_168_253, ⟨kbadG, ⟨kbadG, trivial⟩⟩⟩⟩⟩⟩⟩⟩⟩⟩⟩⟩⟩⟩⟩⟩, ⟨⟨ki_168_256, ⟨ki_168_257, ⟨kbadG, ⟨kbadG, ⟨ki_168_260, ⟨ki_168_261, trivial⟩⟩⟩⟩⟩⟩, trivial⟩⟩⟩⟩⟩⟩⟩⟩⟩⟩⟩⟩⟩⟩⟩⟩⟩)
set_option maxRecDepth 20000 in
theorem d_169_0 : decode (js_b 169) 0 = .ok (.aload_n 0, 1) := by decide +kernel
set_option maxRecDepth 20000 in
theorem d_169_1 : decode (js_b 169) 1 = .ok (.iload_n 1, 1) := by decide +kernel
set_option maxRecDepth 20000 in
theorem d_169_2 : decode (js_b 169) 2 = .ok (.iload_n 3, 1) := by decide +kernel
set_option maxRecDepth 20000 in
theorem d_169_3 : decode (js_b 169) 3 = .ok (.iconst 1, 1) := by decide +kernel
set_option maxRecDepth 20000 in
theorem d_169_4 : decode (js_b 169) 4 = .ok (.isub, 1) := by decide +kernel
set_option maxRecDepth 20000 in
theorem d_169_5 : decode (js_b 169) 5 = .ok (.iconst 2, 1) := by decide +kernel
set_option maxRecDepth 20000 in
theorem d_169_6 : decode (js_b 169) 6 = .ok (.irem, 1) := by decide +kernel
set_option maxRecDepth 20000 in
theorem d_169_7 : decode (js_b 169) 7 = .ok (.iadd, 1) := by decide +kernel
set_option maxRecDepth 20000 in
theorem d_169_8 : decode (js_b 169) 8 = .ok (.iload_n 2, 1) := by decide +kernel
set_option maxRecDepth 20000 in
theorem d_169_9 : decode (js_b 169) 9 = .ok (.iconst 2, 1) := by decide +kernel
set_option maxRecDepth 20000 in
theorem d_169_10 : decode (js_b 169) 10 = .ok (.iload_n 3, 1) := by decide +kernel
set_option maxRecDepth 20000 in
theorem d_169_11 : decode (js_b 169) 11 = .ok (.isub, 1) := by decide +kernel
set_option maxRecDepth 20000 in
theorem d_169_12 : decode (js_b 169) 12 = .ok (.iconst 2, 1) := by decide +kernel
set_option maxRecDepth 20000 in
theorem d_169_13 : decode (js_b 169) 13 = .ok (.irem, 1) := by decide +kernel
set_option maxRecDepth 20000 in
theorem d_169_14 : decode (js_b 169) 14 = .ok (.iadd, 1) := by decide +kernel
set_option maxRecDepth 20000 in
theorem d_169_15 : decode (js_b 169) 15 = .ok (.invokestatic 175, 3) := by decide +kernel
set_option maxRecDepth 20000 in
theorem d_169_18 : decode (js_b 169) 18 = .ok (.ireturn, 1) := by decide +kernel
theorem ki_169_15 : js_OkG 169 15 (o_cI 147 3 0 18) := og_sIW rfl rfl kB_169_147 rfl kw_738 kw_739 d_169_15
theorem ki_169_14 : js_OkG 169 14 (o_b2 (fun x y => x + y) 15) := js_St.okG (st_iadd d_169_14) (fun _ _ _ _ _ => rfl)
theorem ki_169_13 : js_OkG 169 13 (o_rem 14) := js_St.okG (st_irem d_169_13) (fun _ _ _ _ _ => rfl)
theorem ki_169_12 : js_OkG 169 12 (o_ic 2 13) := js_St.okG (st_iconst rfl d_169_12) (fun _ _ _ _ _ => rfl)
theorem ki_169_11 : js_OkG 169 11 (o_b2 (fun x y => x - y) 12) := js_St.okG (st_isub d_169_11) (fun _ _ _ _ _ => rfl)
theorem ki_169_10 : js_OkG 169 10 (o_il 3 11) := js_St.okG (st_iloadn rfl d_169_10) (fun _ _ _ _ _ => rfl)
theorem ki_169_9 : js_OkG 169 9 (o_ic 2 10) := js_St.okG (st_iconst rfl d_169_9) (fun _ _ _ _ _ => rfl)
theorem ki_169_8 : js_OkG 169 8 (o_il 2 9) := js_St.okG (st_iloadn rfl d_169_8) (fun _ _ _ _ _ => rfl)
theorem ki_169_7 : js_OkG 169 7 (o_b2 (fun x y => x + y) 8) := js_St.okG (st_iadd d_169_7) (fun _ _ _ _ _ => rfl)
theorem ki_169_6 : js_OkG 169 6 (o_rem 7) := js_St.okG (st_irem d_169_6) (fun _ _ _ _ _ => rfl)
theorem ki_169_5 : js_OkG 169 5 (o_ic 2 6) := js_St.okG (st_iconst rfl d_169_5) (fun _ _ _ _ _ => rfl)
theorem ki_169_4 : js_OkG 169 4 (o_b2 (fun x y => x - y) 5) := js_St.okG (st_isub d_169_4) (fun _ _ _ _ _ => rfl)
theorem ki_169_3 : js_OkG 169 3 (o_ic 1 4) := js_St.okG (st_iconst rfl d_169_3) (fun _ _ _ _ _ => rfl)
theorem ki_169_2 : js_OkG 169 2 (o_il 3 3) := js_St.okG (st_iloadn rfl d_169_2) (fun _ _ _ _ _ => rfl)
theorem ki_169_1 : js_OkG 169 1 (o_il 1 2) := js_St.okG (st_iloadn rfl d_169_1) (fun _ _ _ _ _ => rfl)
theorem ki_169_0 : js_OkG 169 0 (o_al 0 1) := js_St.okG (st_aloadn rfl d_169_0) (fun _ _ _ _ _ => rfl)
theorem ki_169_18 : js_OkG 169 18 (o_rI) := og_rI rfl d_169_18
set_option maxRecDepth 20000 in
theorem mk_169 : js_mokG 169 := jk_tab (fun _ => js_St.okG st_bad (fun _ _ _ _ _ => rfl)) (show jk_all (js_OkG 169) 0 tb_169 from ⟨⟨ki_169_0, ⟨ki_169_1, ⟨ki_169_2, ⟨ki_169_3, ⟨ki_169_4, ⟨ki_169_5, ⟨ki_169_6, ⟨ki_169_7, ⟨ki_169_8, ⟨ki_169_9, ⟨ki_169_10, ⟨ki_169_11, ⟨ki_169_12, ⟨ki_169_13, ⟨ki_169_14, ⟨ki_169_15, trivial⟩⟩⟩⟩⟩⟩⟩⟩⟩⟩⟩⟩⟩⟩⟩⟩, ⟨⟨kbadG, ⟨kbadG, ⟨ki_169_18, trivial⟩⟩⟩, trivial⟩⟩)
set_option maxRecDepth 20000 in
theorem d_170_0 : decode (js_b 170) 0 = .ok (.iconst 0, 1) := by decide +kernel
set_option maxRecDepth 20000 in
theorem d_170_1 : decode (js_b 170) 1 = .ok (.istore_n 3, 1) := by decide +kernel
set_option maxRecDepth 20000 in
theorem d_170_2 : decode (js_b 170) 2 = .ok (.iconst 0, 1) := by decide +kernel
set_option maxRecDepth 20000 in
theorem d_170_3 : decode (js_b 170) 3 = .ok (.istore 4, 2) := by decide +kernel
set_option maxRecDepth 20000 in
theorem d_170_5 : decode (js_b 170) 5 = .ok (.iload 4, 2) := by decide +kernel
set_option maxRecDepth 20000 in
theorem d_170_7 : decode (js_b 170) 7 = .ok (.iconst 4, 1) := by decide +kernel
set_option maxRecDepth 20000 in
theorem d_170_8 : decode (js_b 170) 8 = .ok (.if_icmp .ge 30, 3) := by decide +kernel
set_option maxRecDepth 20000 in
theorem d_170_11 : decode (js_b 170) 11 = .ok (.iload_n 3, 1) := by decide +kernel
set_option maxRecDepth 20000 in
theorem d_170_12 : decode (js_b 170) 12 = .ok (.ifCond .ne 14, 3) := by decide +kernel
set_option maxRecDepth 20000 in
theorem d_170_15 : decode (js_b 170) 15 = .ok (.aload_n 0, 1) := by decide +kernel
set_option maxRecDepth 20000 in
theorem d_170_16 : decode (js_b 170) 16 = .ok (.iload_n 1, 1) := by decide +kernel
set_option maxRecDepth 20000 in
theorem d_170_17 : decode (js_b 170) 17 = .ok (.iload_n 2, 1) := by decide +kernel
set_option maxRecDepth 20000 in
theorem d_170_18 : decode (js_b 170) 18 = .ok (.iload 4, 2) := by decide +kernel
set_option maxRecDepth 20000 in
theorem d_170_20 : decode (js_b 170) 20 = .ok (.invokestatic 178, 3) := by decide +kernel
set_option maxRecDepth 20000 in
theorem d_170_23 : decode (js_b 170) 23 = .ok (.ifCond .lt 7, 3) := by decide +kernel
set_option maxRecDepth 20000 in
theorem d_170_26 : decode (js_b 170) 26 = .ok (.iconst 1, 1) := by decide +kernel
set_option maxRecDepth 20000 in
theorem d_170_27 : decode (js_b 170) 27 = .ok (.goto 4, 3) := by decide +kernel
set_option maxRecDepth 20000 in
theorem d_170_30 : decode (js_b 170) 30 = .ok (.iconst 0, 1) := by decide +kernel
set_option maxRecDepth 20000 in
theorem d_170_31 : decode (js_b 170) 31 = .ok (.istore_n 3, 1) := by decide +kernel
set_option maxRecDepth 20000 in
theorem d_170_32 : decode (js_b 170) 32 = .ok (.iinc 4 1, 3) := by decide +kernel
set_option maxRecDepth 20000 in
theorem d_170_35 : decode (js_b 170) 35 = .ok (.goto (-30), 3) := by decide +kernel
set_option maxRecDepth 20000 in
theorem d_170_38 : decode (js_b 170) 38 = .ok (.iload_n 3, 1) := by decide +kernel
set_option maxRecDepth 20000 in
theorem d_170_39 : decode (js_b 170) 39 = .ok (.ifCond .eq 17, 3) := by decide +kernel
set_option maxRecDepth 20000 in
theorem d_170_42 : decode (js_b 170) 42 = .ok (.aload_n 0, 1) := by decide +kernel
set_option maxRecDepth 20000 in
theorem d_170_43 : decode (js_b 170) 43 = .ok (.iload_n 1, 1) := by decide +kernel
set_option maxRecDepth 20000 in
theorem d_170_44 : decode (js_b 170) 44 = .ok (.iload_n 2, 1) := by decide +kernel
set_option maxRecDepth 20000 in
theorem d_170_45 : decode (js_b 170) 45 = .ok (.invokestatic 181, 3) := by decide +kernel
set_option maxRecDepth 20000 in
theorem d_170_48 : decode (js_b 170) 48 = .ok (.iconst 1, 1) := by decide +kernel
set_option maxRecDepth 20000 in
theorem d_170_49 : decode (js_b 170) 49 = .ok (.if_icmp .ne 7, 3) := by decide +kernel
set_option maxRecDepth 20000 in
theorem d_170_52 : decode (js_b 170) 52 = .ok (.iconst 1, 1) := by decide +kernel
set_option maxRecDepth 20000 in
theorem d_170_53 : decode (js_b 170) 53 = .ok (.goto 4, 3) := by decide +kernel
set_option maxRecDepth 20000 in
theorem d_170_56 : decode (js_b 170) 56 = .ok (.iconst 0, 1) := by decide +kernel
set_option maxRecDepth 20000 in
theorem d_170_57 : decode (js_b 170) 57 = .ok (.ireturn, 1) := by decide +kernel
theorem ki_170_15 : js_OkG 170 15 (o_al 0 16) := js_St.okG (st_aloadn rfl d_170_15) (fun _ _ _ _ _ => rfl)
theorem ki_170_12 : js_OkG 170 12 (o_ne 26 15) := js_St.okG (st_ifne (by decide) d_170_12) (fun _ _ _ _ _ => rfl)
theorem ki_170_11 : js_OkG 170 11 (o_il 3 12) := js_St.okG (st_iloadn rfl d_170_11) (fun _ _ _ _ _ => rfl)
theorem ki_170_8 : js_OkG 170 8 (o_cge 38 11) := js_St.okG (st_icge (by decide) d_170_8) (fun _ _ _ _ _ => rfl)
theorem ki_170_7 : js_OkG 170 7 (o_ic 4 8) := js_St.okG (st_iconst rfl d_170_7) (fun _ _ _ _ _ => rfl)
theorem ki_170_5 : js_OkG 170 5 (o_il 4 7) := js_St.okG (st_iload d_170_5) (fun _ _ _ _ _ => rfl)
theorem ki_170_3 : js_OkG 170 3 (o_is 4 5) := js_St.okG (st_istore (Nat.le_of_ble_eq_true rfl) d_170_3) (fun _ _ _ _ _ => rfl)
theorem ki_170_2 : js_OkG 170 2 (o_ic 0 3) := js_St.okG (st_iconst rfl d_170_2) (fun _ _ _ _ _ => rfl)
theorem ki_170_1 : js_OkG 170 1 (o_is 3 2) := js_St.okG (st_istoren rfl (Nat.le_of_ble_eq_true rfl) d_170_1) (fun _ _ _ _ _ => rfl)
theorem ki_170_0 : js_OkG 170 0 (o_ic 0 1) := js_St.okG (st_iconst rfl d_170_0) (fun _ _ _ _ _ => rfl)
theorem ki_170_31 : js_OkG 170 31 (o_is 3 32) := js_St.okG (st_istoren rfl (Nat.le_of_ble_eq_true rfl) d_170_31) (fun _ _ _ _ _ => rfl)
theorem ki_170_30 : js_OkG 170 30 (o_ic 0 31) := js_St.okG (st_iconst rfl d_170_30) (fun _ _ _ _ _ => rfl)
theorem ki_170_27 : js_OkG 170 27 (o_go 31) := js_St.okG (st_goto (by decide) d_170_27) (fun _ _ _ _ _ => rfl)
theorem ki_170_26 : js_OkG 170 26 (o_ic 1 27) := js_St.okG (st_iconst rfl d_170_26) (fun _ _ _ _ _ => rfl)
theorem ki_170_23 : js_OkG 170 23 (o_lt 30 26) := js_St.okG (st_iflt (by decide) d_170_23) (fun _ _ _ _ _ => rfl)
theorem ki_170_20 : js_OkG 170 20 (o_cI 169 4 0 23) := og_sIP rfl rfl kB_170_169 rfl kw_775 kw_776 d_170_20
theorem ki_170_18 : js_OkG 170 18 (o_il 4 20) := js_St.okG (st_iload d_170_18) (fun _ _ _ _ _ => rfl)
theorem ki_170_17 : js_OkG 170 17 (o_il 2 18) := js_St.okG (st_iloadn rfl d_170_17) (fun _ _ _ _ _ => rfl)
theorem ki_170_16 : js_OkG 170 16 (o_il 1 17) := js_St.okG (st_iloadn rfl d_170_16) (fun _ _ _ _ _ => rfl)
theorem ki_170_45 : js_OkG 170 45 (o_cI 146 3 0 48) := og_sIW rfl rfl kB_170_146 rfl kw_778 kw_779 d_170_45
theorem ki_170_44 : js_OkG 170 44 (o_il 2 45) := js_St.okG (st_iloadn rfl d_170_44) (fun _ _ _ _ _ => rfl)
theorem ki_170_43 : js_OkG 170 43 (o_il 1 44) := js_St.okG (st_iloadn rfl d_170_43) (fun _ _ _ _ _ => rfl)
theorem ki_170_42 : js_OkG 170 42 (o_al 0 43) := js_St.okG (st_aloadn rfl d_170_42) (fun _ _ _ _ _ => rfl)
theorem ki_170_39 : js_OkG 170 39 (o_eq 56 42) := js_St.okG (st_ifeq (by decide) d_170_39) (fun _ _ _ _ _ => rfl)
theorem ki_170_38 : js_OkG 170 38 (o_il 3 39) := js_St.okG (st_iloadn rfl d_170_38) (fun _ _ _ _ _ => rfl)
theorem ki_170_35 : js_OkG 170 35 (o_go 5) := js_St.okG (st_goto (by decide) d_170_35) (fun _ _ _ _ _ => rfl)
theorem ki_170_32 : js_OkG 170 32 (o_inc 4 1 35) := js_St.okG (st_iinc rfl (Nat.le_of_ble_eq_true rfl) d_170_32) (fun _ _ _ _ _ => rfl)
theorem ki_170_57 : js_OkG 170 57 (o_rZ) := og_rZ rfl d_170_57
theorem ki_170_56 : js_OkG 170 56 (o_ic 0 57) := js_St.okG (st_iconst rfl d_170_56) (fun _ _ _ _ _ => rfl)
theorem ki_170_53 : js_OkG 170 53 (o_go 57) := js_St.okG (st_goto (by decide) d_170_53) (fun _ _ _ _ _ => rfl)
theorem ki_170_52 : js_OkG 170 52 (o_ic 1 53) := js_St.okG (st_iconst rfl d_170_52) (fun _ _ _ _ _ => rfl)
theorem ki_170_49 : js_OkG 170 49 (o_cne 56 52) := js_St.okG (st_icne (by decide) d_170_49) (fun _ _ _ _ _ => rfl)
theorem ki_170_48 : js_OkG 170 48 (o_ic 1 49) := js_St.okG (st_iconst rfl d_170_48) (fun _ _ _ _ _ => rfl)
set_option maxRecDepth 20000 in
theorem mk_170 : js_mokG 170 := jk_tab (fun _ => js_St.okG st_bad (fun _ _ _ _ _ => rfl)) (show jk_all (js_OkG 170) 0 tb_170 from ⟨⟨ki_170_0, ⟨ki_170_1, ⟨ki_170_2, ⟨ki_170_3, ⟨kbadG, ⟨ki_170_5, ⟨kbadG, ⟨ki_170_7, ⟨ki_170_8, ⟨kbadG, ⟨kbadG, ⟨ki_170_11, ⟨ki_170_12, ⟨kbadG, ⟨kbadG, ⟨ki_170_15, trivial⟩⟩⟩⟩⟩⟩⟩⟩⟩⟩⟩⟩⟩⟩⟩⟩, ⟨⟨ki_170_16, ⟨ki_170_17, ⟨ki_170_18, ⟨kbadG, ⟨ki_170_20, ⟨kbadG, ⟨kbadG, ⟨ki_170_23, ⟨kbadG, ⟨kbadG, ⟨ki_170_26, ⟨ki_170_27, ⟨kbadG, ⟨kbadG, ⟨ki_170_30, ⟨ki_170_31, trivial⟩⟩⟩⟩⟩⟩⟩⟩⟩⟩⟩⟩⟩⟩⟩⟩, ⟨⟨ki_170_32, ⟨kbadG, ⟨kbadG, ⟨ki_170_35, ⟨kbadG, ⟨kbadG, ⟨ki_170_38, ⟨ki_170_39, ⟨kbadG, ⟨kbadG, ⟨ki_170_42, ⟨ki_170_43, ⟨ki_170_44, ⟨ki_170_45, ⟨kbadG, ⟨kbadG, trivial⟩⟩⟩⟩⟩⟩⟩⟩⟩⟩⟩⟩⟩⟩⟩⟩, ⟨⟨ki_170_48, ⟨ki_170_49, ⟨kbadG, ⟨kbadG, ⟨ki_170_52, ⟨ki_170_53, ⟨kbadG, ⟨kbadG, ⟨ki_170_56, ⟨ki_170_57, trivial⟩⟩⟩⟩⟩⟩⟩⟩⟩⟩, trivial⟩⟩⟩⟩)
set_option maxRecDepth 20000 in
theorem d_171_0 : decode (js_b 171) 0 = .ok (.aload_n 0, 1) := by decide +kernel
set_option maxRecDepth 20000 in
theorem d_171_1 : decode (js_b 171) 1 = .ok (.iload_n 1, 1) := by decide +kernel
set_option maxRecDepth 20000 in
theorem d_171_2 : decode (js_b 171) 2 = .ok (.iload_n 2, 1) := by decide +kernel
set_option maxRecDepth 20000 in
theorem d_171_3 : decode (js_b 171) 3 = .ok (.iload_n 3, 1) := by decide +kernel
set_option maxRecDepth 20000 in
theorem d_171_4 : decode (js_b 171) 4 = .ok (.isub, 1) := by decide +kernel
set_option maxRecDepth 20000 in
theorem d_171_5 : decode (js_b 171) 5 = .ok (.aload_n 0, 1) := by decide +kernel
set_option maxRecDepth 20000 in
theorem d_171_6 : decode (js_b 171) 6 = .ok (.iload_n 1, 1) := by decide +kernel
set_option maxRecDepth 20000 in
theorem d_171_7 : decode (js_b 171) 7 = .ok (.invokevirtual 33, 3) := by decide +kernel
set_option maxRecDepth 20000 in
theorem d_171_10 : decode (js_b 171) 10 = .ok (.iadd, 1) := by decide +kernel
set_option maxRecDepth 20000 in
theorem d_171_11 : decode (js_b 171) 11 = .ok (.iconst 4, 1) := by decide +kernel
set_option maxRecDepth 20000 in
theorem d_171_12 : decode (js_b 171) 12 = .ok (.iadd, 1) := by decide +kernel
set_option maxRecDepth 20000 in
theorem d_171_13 : decode (js_b 171) 13 = .ok (.iconst 4, 1) := by decide +kernel
set_option maxRecDepth 20000 in
theorem d_171_14 : decode (js_b 171) 14 = .ok (.irem, 1) := by decide +kernel
set_option maxRecDepth 20000 in
theorem d_171_15 : decode (js_b 171) 15 = .ok (.invokevirtual 36, 3) := by decide +kernel
set_option maxRecDepth 20000 in
theorem d_171_18 : decode (js_b 171) 18 = .ok (.ireturn, 1) := by decide +kernel
theorem ki_171_15 : js_OkG 171 15 (o_cI 68 3 8 18) := og_cI (site_V kk_171_68 (by decide) kw_658 kw_659 kw_660 (fun t ht => by cases ht; exact Or.inl ⟨by decide, _, rfl, rfl⟩) d_171_15) rfl rfl
theorem ki_171_14 : js_OkG 171 14 (o_rem 15) := js_St.okG (st_irem d_171_14) (fun _ _ _ _ _ => rfl)
theorem ki_171_13 : js_OkG 171 13 (o_ic 4 14) := js_St.okG (st_iconst rfl d_171_13) (fun _ _ _ _ _ => rfl)
theorem ki_171_12 : js_OkG 171 12 (o_b2 (fun x y => x + y) 13) := js_St.okG (st_iadd d_171_12) (fun _ _ _ _ _ => rfl)
theorem ki_171_11 : js_OkG 171 11 (o_ic 4 12) := js_St.okG (st_iconst rfl d_171_11) (fun _ _ _ _ _ => rfl)
theorem ki_171_10 : js_OkG 171 10 (o_b2 (fun x y => x + y) 11) := js_St.okG (st_iadd d_171_10) (fun _ _ _ _ _ => rfl)
theorem ki_171_7 : js_OkG 171 7 (o_cI 67 2 8 10) := og_cI (site_V kk_171_67 (by decide) kw_643 kw_644 kw_645 (fun t ht => by cases ht; exact Or.inl ⟨by decide, _, rfl, rfl⟩) d_171_7) rfl rfl
theorem ki_171_6 : js_OkG 171 6 (o_il 1 7) := js_St.okG (st_iloadn rfl d_171_6) (fun _ _ _ _ _ => rfl)
theorem ki_171_5 : js_OkG 171 5 (o_al 0 6) := js_St.okG (st_aloadn rfl d_171_5) (fun _ _ _ _ _ => rfl)
theorem ki_171_4 : js_OkG 171 4 (o_b2 (fun x y => x - y) 5) := js_St.okG (st_isub d_171_4) (fun _ _ _ _ _ => rfl)
theorem ki_171_3 : js_OkG 171 3 (o_il 3 4) := js_St.okG (st_iloadn rfl d_171_3) (fun _ _ _ _ _ => rfl)
theorem ki_171_2 : js_OkG 171 2 (o_il 2 3) := js_St.okG (st_iloadn rfl d_171_2) (fun _ _ _ _ _ => rfl)
theorem ki_171_1 : js_OkG 171 1 (o_il 1 2) := js_St.okG (st_iloadn rfl d_171_1) (fun _ _ _ _ _ => rfl)
theorem ki_171_0 : js_OkG 171 0 (o_al 0 1) := js_St.okG (st_aloadn rfl d_171_0) (fun _ _ _ _ _ => rfl)
theorem ki_171_18 : js_OkG 171 18 (o_rI) := og_rI rfl d_171_18
set_option maxRecDepth 20000 in
theorem mk_171 : js_mokG 171 := jk_tab (fun _ => js_St.okG st_bad (fun _ _ _ _ _ => rfl)) (show jk_all (js_OkG 171) 0 tb_171 from ⟨⟨ki_171_0, ⟨ki_171_1, ⟨ki_171_2, ⟨ki_171_3, ⟨ki_171_4, ⟨ki_171_5, ⟨ki_171_6, ⟨ki_171_7, ⟨kbadG, ⟨kbadG, ⟨ki_171_10, ⟨ki_171_11, ⟨ki_171_12, ⟨ki_171_13, ⟨ki_171_14, ⟨ki_171_15, trivial⟩⟩⟩⟩⟩⟩⟩⟩⟩⟩⟩⟩⟩⟩⟩⟩, ⟨⟨kbadG, ⟨kbadG, ⟨ki_171_18, trivial⟩⟩⟩, trivial⟩⟩)
set_option maxRecDepth 20000 in
theorem d_172_0 : decode (js_b 172) 0 = .ok (.iconst 0, 1) := by decide +kernel
set_option maxRecDepth 20000 in
theorem d_172_1 : decode (js_b 172) 1 = .ok (.istore 5, 2) := by decide +kernel
set_option maxRecDepth 20000 in
theorem d_172_3 : decode (js_b 172) 3 = .ok (.iconst 0, 1) := by decide +kernel
set_option maxRecDepth 20000 in
theorem d_172_4 : decode (js_b 172) 4 = .ok (.istore 6, 2) := by decide +kernel
set_option maxRecDepth 20000 in
theorem d_172_6 : decode (js_b 172) 6 = .ok (.iload 6, 2) := by decide +kernel
set_option maxRecDepth 20000 in
theorem d_172_8 : decode (js_b 172) 8 = .ok (.iconst 4, 1) := by decide +kernel
set_option maxRecDepth 20000 in
theorem d_172_9 : decode (js_b 172) 9 = .ok (.if_icmp .ge 90, 3) := by decide +kernel
set_option maxRecDepth 20000 in
theorem d_172_12 : decode (js_b 172) 12 = .ok (.aload_n 0, 1) := by decide +kernel
set_option maxRecDepth 20000 in
theorem d_172_13 : decode (js_b 172) 13 = .ok (.iload_n 2, 1) := by decide +kernel
set_option maxRecDepth 20000 in
theorem d_172_14 : decode (js_b 172) 14 = .ok (.iload_n 3, 1) := by decide +kernel
set_option maxRecDepth 20000 in
theorem d_172_15 : decode (js_b 172) 15 = .ok (.iload 6, 2) := by decide +kernel
set_option maxRecDepth 20000 in
theorem d_172_17 : decode (js_b 172) 17 = .ok (.invokestatic 178, 3) := by decide +kernel
set_option maxRecDepth 20000 in
theorem d_172_20 : decode (js_b 172) 20 = .ok (.istore 7, 2) := by decide +kernel
set_option maxRecDepth 20000 in
theorem d_172_22 : decode (js_b 172) 22 = .ok (.iload 7, 2) := by decide +kernel
set_option maxRecDepth 20000 in
theorem d_172_24 : decode (js_b 172) 24 = .ok (.ifCond .lt 69, 3) := by decide +kernel
set_option maxRecDepth 20000 in
theorem d_172_27 : decode (js_b 172) 27 = .ok (.aload_n 0, 1) := by decide +kernel
set_option maxRecDepth 20000 in
theorem d_172_28 : decode (js_b 172) 28 = .ok (.iload 7, 2) := by decide +kernel
set_option maxRecDepth 20000 in
theorem d_172_30 : decode (js_b 172) 30 = .ok (.iload 6, 2) := by decide +kernel
set_option maxRecDepth 20000 in
theorem d_172_32 : decode (js_b 172) 32 = .ok (.iconst 2, 1) := by decide +kernel
set_option maxRecDepth 20000 in
theorem d_172_33 : decode (js_b 172) 33 = .ok (.iadd, 1) := by decide +kernel
set_option maxRecDepth 20000 in
theorem d_172_34 : decode (js_b 172) 34 = .ok (.iconst 4, 1) := by decide +kernel
set_option maxRecDepth 20000 in
theorem d_172_35 : decode (js_b 172) 35 = .ok (.irem, 1) := by decide +kernel
set_option maxRecDepth 20000 in
theorem d_172_36 : decode (js_b 172) 36 = .ok (.invokevirtual 36, 3) := by decide +kernel
set_option maxRecDepth 20000 in
theorem d_172_39 : decode (js_b 172) 39 = .ok (.istore 8, 2) := by decide +kernel
set_option maxRecDepth 20000 in
theorem d_172_41 : decode (js_b 172) 41 = .ok (.iload 5, 2) := by decide +kernel
set_option maxRecDepth 20000 in
theorem d_172_43 : decode (js_b 172) 43 = .ok (.aload_n 0, 1) := by decide +kernel
set_option maxRecDepth 20000 in
theorem d_172_44 : decode (js_b 172) 44 = .ok (.iload_n 1, 1) := by decide +kernel
set_option maxRecDepth 20000 in
theorem d_172_45 : decode (js_b 172) 45 = .ok (.iload 6, 2) := by decide +kernel
set_option maxRecDepth 20000 in
theorem d_172_47 : decode (js_b 172) 47 = .ok (.iload 4, 2) := by decide +kernel
set_option maxRecDepth 20000 in
theorem d_172_49 : decode (js_b 172) 49 = .ok (.invokestatic 183, 3) := by decide +kernel
set_option maxRecDepth 20000 in
theorem d_172_52 : decode (js_b 172) 52 = .ok (.iload 8, 2) := by decide +kernel
set_option maxRecDepth 20000 in
theorem d_172_54 : decode (js_b 172) 54 = .ok (.ixor, 1) := by decide +kernel
set_option maxRecDepth 20000 in
theorem d_172_55 : decode (js_b 172) 55 = .ok (.bipush 15, 2) := by decide +kernel
set_option maxRecDepth 20000 in
theorem d_172_57 : decode (js_b 172) 57 = .ok (.if_icmp .ne 7, 3) := by decide +kernel
set_option maxRecDepth 20000 in
theorem d_172_60 : decode (js_b 172) 60 = .ok (.iconst 4, 1) := by decide +kernel
set_option maxRecDepth 20000 in
theorem d_172_61 : decode (js_b 172) 61 = .ok (.goto 5, 3) := by decide +kernel
set_option maxRecDepth 20000 in
theorem d_172_64 : decode (js_b 172) 64 = .ok (.bipush (-3), 2) := by decide +kernel
set_option maxRecDepth 20000 in
theorem d_172_66 : decode (js_b 172) 66 = .ok (.iadd, 1) := by decide +kernel
set_option maxRecDepth 20000 in
theorem d_172_67 : decode (js_b 172) 67 = .ok (.istore 5, 2) := by decide +kernel
set_option maxRecDepth 20000 in
theorem d_172_69 : decode (js_b 172) 69 = .ok (.iload 5, 2) := by decide +kernel
set_option maxRecDepth 20000 in
theorem d_172_71 : decode (js_b 172) 71 = .ok (.aload_n 0, 1) := by decide +kernel
set_option maxRecDepth 20000 in
theorem d_172_72 : decode (js_b 172) 72 = .ok (.iload 7, 2) := by decide +kernel
set_option maxRecDepth 20000 in
theorem d_172_74 : decode (js_b 172) 74 = .ok (.invokevirtual 29, 3) := by decide +kernel
set_option maxRecDepth 20000 in
theorem d_172_77 : decode (js_b 172) 77 = .ok (.aload_n 0, 1) := by decide +kernel
set_option maxRecDepth 20000 in
theorem d_172_78 : decode (js_b 172) 78 = .ok (.iload_n 1, 1) := by decide +kernel
set_option maxRecDepth 20000 in
theorem d_172_79 : decode (js_b 172) 79 = .ok (.invokevirtual 29, 3) := by decide +kernel
set_option maxRecDepth 20000 in
theorem d_172_82 : decode (js_b 172) 82 = .ok (.if_icmp .ne 7, 3) := by decide +kernel
set_option maxRecDepth 20000 in
theorem d_172_85 : decode (js_b 172) 85 = .ok (.iconst 1, 1) := by decide +kernel
set_option maxRecDepth 20000 in
theorem d_172_86 : decode (js_b 172) 86 = .ok (.goto 4, 3) := by decide +kernel
set_option maxRecDepth 20000 in
theorem d_172_89 : decode (js_b 172) 89 = .ok (.iconst 0, 1) := by decide +kernel
set_option maxRecDepth 20000 in
theorem d_172_90 : decode (js_b 172) 90 = .ok (.iadd, 1) := by decide +kernel
set_option maxRecDepth 20000 in
theorem d_172_91 : decode (js_b 172) 91 = .ok (.istore 5, 2) := by decide +kernel
set_option maxRecDepth 20000 in
theorem d_172_93 : decode (js_b 172) 93 = .ok (.iinc 6 1, 3) := by decide +kernel
set_option maxRecDepth 20000 in
theorem d_172_96 : decode (js_b 172) 96 = .ok (.goto (-90), 3) := by decide +kernel
set_option maxRecDepth 20000 in
theorem d_172_99 : decode (js_b 172) 99 = .ok (.iload 5, 2) := by decide +kernel
set_option maxRecDepth 20000 in
theorem d_172_101 : decode (js_b 172) 101 = .ok (.ireturn, 1) := by decide +kernel
theorem ki_172_15 : js_OkG 172 15 (o_il 6 17) := js_St.okG (st_iload d_172_15) (fun _ _ _ _ _ => rfl)
theorem ki_172_14 : js_OkG 172 14 (o_il 3 15) := js_St.okG (st_iloadn rfl d_172_14) (fun _ _ _ _ _ => rfl)
theorem ki_172_13 : js_OkG 172 13 (o_il 2 14) := js_St.okG (st_iloadn rfl d_172_13) (fun _ _ _ _ _ => rfl)
theorem ki_172_12 : js_OkG 172 12 (o_al 0 13) := js_St.okG (st_aloadn rfl d_172_12) (fun _ _ _ _ _ => rfl)
theorem ki_172_9 : js_OkG 172 9 (o_cge 99 12) := js_St.okG (st_icge (by decide) d_172_9) (fun _ _ _ _ _ => rfl)
theorem ki_172_8 : js_OkG 172 8 (o_ic 4 9) := js_St.okG (st_iconst rfl d_172_8) (fun _ _ _ _ _ => rfl)
theorem ki_172_6 : js_OkG 172 6 (o_il 6 8) := js_St.okG (st_iload d_172_6) (fun _ _ _ _ _ => rfl)
theorem ki_172_4 : js_OkG 172 4 (o_is 6 6) := js_St.okG (st_istore (Nat.le_of_ble_eq_true rfl) d_172_4) (fun _ _ _ _ _ => rfl)
theorem ki_172_3 : js_OkG 172 3 (o_ic 0 4) := js_St.okG (st_iconst rfl d_172_3) (fun _ _ _ _ _ => rfl)
theorem ki_172_1 : js_OkG 172 1 (o_is 5 3) := js_St.okG (st_istore (Nat.le_of_ble_eq_true rfl) d_172_1) (fun _ _ _ _ _ => rfl)
theorem ki_172_0 : js_OkG 172 0 (o_ic 0 1) := js_St.okG (st_iconst rfl d_172_0) (fun _ _ _ _ _ => rfl)
theorem ki_172_30 : js_OkG 172 30 (o_il 6 32) := js_St.okG (st_iload d_172_30) (fun _ _ _ _ _ => rfl)
theorem ki_172_28 : js_OkG 172 28 (o_il 7 30) := js_St.okG (st_iload d_172_28) (fun _ _ _ _ _ => rfl)
theorem ki_172_27 : js_OkG 172 27 (o_al 0 28) := js_St.okG (st_aloadn rfl d_172_27) (fun _ _ _ _ _ => rfl)
theorem ki_172_24 : js_OkG 172 24 (o_lt 93 27) := js_St.okG (st_iflt (by decide) d_172_24) (fun _ _ _ _ _ => rfl)
theorem ki_172_22 : js_OkG 172 22 (o_il 7 24) := js_St.okG (st_iload d_172_22) (fun _ _ _ _ _ => rfl)
theorem ki_172_20 : js_OkG 172 20 (o_is 7 22) := js_St.okG (st_istore (Nat.le_of_ble_eq_true rfl) d_172_20) (fun _ _ _ _ _ => rfl)
theorem ki_172_17 : js_OkG 172 17 (o_cI 169 4 0 20) := og_sIP rfl rfl kB_172_169 rfl kw_775 kw_776 d_172_17
theorem ki_172_47 : js_OkG 172 47 (o_il 4 49) := js_St.okG (st_iload d_172_47) (fun _ _ _ _ _ => rfl)
theorem ki_172_45 : js_OkG 172 45 (o_il 6 47) := js_St.okG (st_iload d_172_45) (fun _ _ _ _ _ => rfl)
theorem ki_172_44 : js_OkG 172 44 (o_il 1 45) := js_St.okG (st_iloadn rfl d_172_44) (fun _ _ _ _ _ => rfl)
theorem ki_172_43 : js_OkG 172 43 (o_al 0 44) := js_St.okG (st_aloadn rfl d_172_43) (fun _ _ _ _ _ => rfl)
theorem ki_172_41 : js_OkG 172 41 (o_il 5 43) := js_St.okG (st_iload d_172_41) (fun _ _ _ _ _ => rfl)
theorem ki_172_39 : js_OkG 172 39 (o_is 8 41) := js_St.okG (st_istore (Nat.le_of_ble_eq_true rfl) d_172_39) (fun _ _ _ _ _ => rfl)
theorem ki_172_36 : js_OkG 172 36 (o_cI 68 3 8 39) := og_cI (site_V kk_172_68 (by decide) kw_658 kw_659 kw_660 (fun t ht => by cases ht; exact Or.inl ⟨by decide, _, rfl, rfl⟩) d_172_36) rfl rfl
theorem ki_172_35 : js_OkG 172 35 (o_rem 36) := js_St.okG (st_irem d_172_35) (fun _ _ _ _ _ => rfl)
theorem ki_172_34 : js_OkG 172 34 (o_ic 4 35) := js_St.okG (st_iconst rfl d_172_34) (fun _ _ _ _ _ => rfl)
theorem ki_172_33 : js_OkG 172 33 (o_b2 (fun x y => x + y) 34) := js_St.okG (st_iadd d_172_33) (fun _ _ _ _ _ => rfl)
theorem ki_172_32 : js_OkG 172 32 (o_ic 2 33) := js_St.okG (st_iconst rfl d_172_32) (fun _ _ _ _ _ => rfl)
theorem ki_172_61 : js_OkG 172 61 (o_go 66) := js_St.okG (st_goto (by decide) d_172_61) (fun _ _ _ _ _ => rfl)
theorem ki_172_60 : js_OkG 172 60 (o_ic 4 61) := js_St.okG (st_iconst rfl d_172_60) (fun _ _ _ _ _ => rfl)
theorem ki_172_57 : js_OkG 172 57 (o_cne 64 60) := js_St.okG (st_icne (by decide) d_172_57) (fun _ _ _ _ _ => rfl)
theorem ki_172_55 : js_OkG 172 55 (o_ic 15 57) := js_St.okG (st_bipush rfl d_172_55) (fun _ _ _ _ _ => rfl)
theorem ki_172_54 : js_OkG 172 54 (o_b2 (fun x y => x ^^^ y) 55) := js_St.okG (st_ixor d_172_54) (fun _ _ _ _ _ => rfl)
theorem ki_172_52 : js_OkG 172 52 (o_il 8 54) := js_St.okG (st_iload d_172_52) (fun _ _ _ _ _ => rfl)
theorem ki_172_49 : js_OkG 172 49 (o_cI 171 4 0 52) := og_sIP rfl rfl kB_172_171 rfl kw_926 kw_927 d_172_49
theorem ki_172_79 : js_OkG 172 79 (o_cI 66 2 8 82) := og_cI (site_V kk_172_66 (by decide) kw_632 kw_633 kw_634 (fun t ht => by cases ht; exact Or.inl ⟨by decide, _, rfl, rfl⟩) d_172_79) rfl rfl
theorem ki_172_78 : js_OkG 172 78 (o_il 1 79) := js_St.okG (st_iloadn rfl d_172_78) (fun _ _ _ _ _ => rfl)
theorem ki_172_77 : js_OkG 172 77 (o_al 0 78) := js_St.okG (st_aloadn rfl d_172_77) (fun _ _ _ _ _ => rfl)
theorem ki_172_74 : js_OkG 172 74 (o_cI 66 2 8 77) := og_cI (site_V kk_172_66 (by decide) kw_632 kw_633 kw_634 (fun t ht => by cases ht; exact Or.inl ⟨by decide, _, rfl, rfl⟩) d_172_74) rfl rfl
theorem ki_172_72 : js_OkG 172 72 (o_il 7 74) := js_St.okG (st_iload d_172_72) (fun _ _ _ _ _ => rfl)
theorem ki_172_71 : js_OkG 172 71 (o_al 0 72) := js_St.okG (st_aloadn rfl d_172_71) (fun _ _ _ _ _ => rfl)
theorem ki_172_69 : js_OkG 172 69 (o_il 5 71) := js_St.okG (st_iload d_172_69) (fun _ _ _ _ _ => rfl)
theorem ki_172_67 : js_OkG 172 67 (o_is 5 69) := js_St.okG (st_istore (Nat.le_of_ble_eq_true rfl) d_172_67) (fun _ _ _ _ _ => rfl)
theorem ki_172_66 : js_OkG 172 66 (o_b2 (fun x y => x + y) 67) := js_St.okG (st_iadd d_172_66) (fun _ _ _ _ _ => rfl)
theorem ki_172_64 : js_OkG 172 64 (o_ic (-3) 66) := js_St.okG (st_bipush rfl d_172_64) (fun _ _ _ _ _ => rfl)
theorem ki_172_93 : js_OkG 172 93 (o_inc 6 1 96) := js_St.okG (st_iinc rfl (Nat.le_of_ble_eq_true rfl) d_172_93) (fun _ _ _ _ _ => rfl)
theorem ki_172_91 : js_OkG 172 91 (o_is 5 93) := js_St.okG (st_istore (Nat.le_of_ble_eq_true rfl) d_172_91) (fun _ _ _ _ _ => rfl)
theorem ki_172_90 : js_OkG 172 90 (o_b2 (fun x y => x + y) 91) := js_St.okG (st_iadd d_172_90) (fun _ _ _ _ _ => rfl)
theorem ki_172_89 : js_OkG 172 89 (o_ic 0 90) := js_St.okG (st_iconst rfl d_172_89) (fun _ _ _ _ _ => rfl)
theorem ki_172_86 : js_OkG 172 86 (o_go 90) := js_St.okG (st_goto (by decide) d_172_86) (fun _ _ _ _ _ => rfl)
theorem ki_172_85 : js_OkG 172 85 (o_ic 1 86) := js_St.okG (st_iconst rfl d_172_85) (fun _ _ _ _ _ => rfl)
theorem ki_172_82 : js_OkG 172 82 (o_cne 89 85) := js_St.okG (st_icne (by decide) d_172_82) (fun _ _ _ _ _ => rfl)
theorem ki_172_101 : js_OkG 172 101 (o_rI) := og_rI rfl d_172_101
theorem ki_172_99 : js_OkG 172 99 (o_il 5 101) := js_St.okG (st_iload d_172_99) (fun _ _ _ _ _ => rfl)
theorem ki_172_96 : js_OkG 172 96 (o_go 6) := js_St.okG (st_goto (by decide) d_172_96) (fun _ _ _ _ _ => rfl)
set_option maxRecDepth 20000 in
theorem mk_172 : js_mokG 172 := jk_tab (fun _ => js_St.okG st_bad (fun _ _ _ _ _ => rfl)) (show jk_all (js_OkG 172) 0 tb_172 from ⟨⟨ki_172_0, ⟨ki_172_1, ⟨kbadG, ⟨ki_172_3, ⟨ki_172_4, ⟨kbadG, ⟨ki_172_6, ⟨kbadG, ⟨ki_172_8, ⟨ki_172_9, ⟨kbadG, ⟨kbadG, ⟨ki_172_12, ⟨ki_172_13, ⟨ki_172_14, ⟨ki_172_15, trivial⟩⟩⟩⟩⟩⟩⟩⟩⟩⟩⟩⟩⟩⟩⟩⟩, ⟨⟨kbadG, ⟨ki_172_17, ⟨kbadG, ⟨kbadG, ⟨ki_172_20, ⟨kbadG, ⟨ki_172_22, ⟨kbadG, ⟨ki_172_24, ⟨kbadG, ⟨kbadG, ⟨ki_172_27, ⟨ki_172_28, ⟨kbadG, ⟨ki_172_30, ⟨kbadG, trivial⟩⟩⟩⟩⟩⟩⟩⟩⟩⟩⟩⟩⟩⟩⟩⟩, ⟨⟨ki_172_32, ⟨ki_172_33, ⟨ki_172_34, ⟨ki_172_35, ⟨ki_172_36, ⟨kbadG, ⟨kbadG, ⟨ki_172_39, ⟨kbadG, ⟨ki_172_41, ⟨kbadG, ⟨ki_172_43, ⟨ki_172_44, ⟨ki_172_45, ⟨kbadG, ⟨ki_172_47, trivial⟩⟩⟩⟩⟩⟩⟩⟩⟩⟩⟩⟩⟩⟩⟩⟩, ⟨⟨kbadG, ⟨ki_172_49, ⟨kbadG, ⟨kbadG, ⟨ki_172_52, ⟨kbadG, ⟨ki_172_54, ⟨ki_172_55, ⟨kbadG, ⟨ki_172_57, ⟨kbadG, ⟨kbadG, ⟨ki_172_60, ⟨ki_172_61, ⟨kbadG, ⟨kbadG, trivial⟩⟩⟩⟩⟩⟩⟩⟩⟩⟩⟩⟩⟩⟩⟩⟩, ⟨⟨ki_172_64, ⟨kbadG, ⟨ki_172_66, ⟨ki_172_67, ⟨kbadG, ⟨ki_172_69, ⟨kbadG, ⟨ki_172_71, ⟨ki_172_72, ⟨kbadG, ⟨ki_172_74, ⟨kbadG, ⟨kbadG, ⟨ki_172_77, ⟨ki_172_78, ⟨ki_172_79, trivial⟩⟩⟩⟩⟩⟩⟩⟩⟩⟩⟩⟩⟩⟩⟩⟩, ⟨⟨kbadG, ⟨kbadG, ⟨ki_172_82, ⟨kbadG, ⟨kbadG, ⟨ki_172_85, ⟨ki_172_86, ⟨kbadG, ⟨kbadG, ⟨ki_172_89, ⟨ki_172_90, ⟨ki_172_91, ⟨kbadG, ⟨ki_172_93, ⟨kbadG, ⟨kbadG, trivial⟩⟩⟩⟩⟩⟩⟩⟩⟩⟩⟩⟩⟩⟩⟩⟩, ⟨⟨ki_172_96, ⟨kbadG, ⟨kbadG, ⟨ki_172_99, ⟨kbadG, ⟨ki_172_101, trivial⟩⟩⟩⟩⟩⟩, trivial⟩⟩⟩⟩⟩⟩⟩)
set_option maxRecDepth 20000 in
theorem d_173_0 : decode (js_b 173) 0 = .ok (.iconst 0, 1) := by decide +kernel
set_option maxRecDepth 20000 in
theorem d_173_1 : decode (js_b 173) 1 = .ok (.istore 4, 2) := by decide +kernel
set_option maxRecDepth 20000 in
theorem d_173_3 : decode (js_b 173) 3 = .ok (.iconst 1, 1) := by decide +kernel
set_option maxRecDepth 20000 in
theorem d_173_4 : decode (js_b 173) 4 = .ok (.istore 5, 2) := by decide +kernel
set_option maxRecDepth 20000 in
theorem d_173_6 : decode (js_b 173) 6 = .ok (.iload 5, 2) := by decide +kernel
set_option maxRecDepth 20000 in
theorem d_173_8 : decode (js_b 173) 8 = .ok (.iconst 4, 1) := by decide +kernel
set_option maxRecDepth 20000 in
theorem d_173_9 : decode (js_b 173) 9 = .ok (.if_icmp .ge 39, 3) := by decide +kernel
set_option maxRecDepth 20000 in
theorem d_173_12 : decode (js_b 173) 12 = .ok (.aload_n 0, 1) := by decide +kernel
set_option maxRecDepth 20000 in
theorem d_173_13 : decode (js_b 173) 13 = .ok (.iload_n 1, 1) := by decide +kernel
set_option maxRecDepth 20000 in
theorem d_173_14 : decode (js_b 173) 14 = .ok (.iload_n 2, 1) := by decide +kernel
set_option maxRecDepth 20000 in
theorem d_173_15 : decode (js_b 173) 15 = .ok (.iload_n 3, 1) := by decide +kernel
set_option maxRecDepth 20000 in
theorem d_173_16 : decode (js_b 173) 16 = .ok (.iload 5, 2) := by decide +kernel
set_option maxRecDepth 20000 in
theorem d_173_18 : decode (js_b 173) 18 = .ok (.invokestatic 186, 3) := by decide +kernel
set_option maxRecDepth 20000 in
theorem d_173_21 : decode (js_b 173) 21 = .ok (.aload_n 0, 1) := by decide +kernel
set_option maxRecDepth 20000 in
theorem d_173_22 : decode (js_b 173) 22 = .ok (.iload_n 1, 1) := by decide +kernel
set_option maxRecDepth 20000 in
theorem d_173_23 : decode (js_b 173) 23 = .ok (.iload_n 2, 1) := by decide +kernel
set_option maxRecDepth 20000 in
theorem d_173_24 : decode (js_b 173) 24 = .ok (.iload_n 3, 1) := by decide +kernel
set_option maxRecDepth 20000 in
theorem d_173_25 : decode (js_b 173) 25 = .ok (.iload 4, 2) := by decide +kernel
set_option maxRecDepth 20000 in
theorem d_173_27 : decode (js_b 173) 27 = .ok (.invokestatic 186, 3) := by decide +kernel
set_option maxRecDepth 20000 in
theorem d_173_30 : decode (js_b 173) 30 = .ok (.if_icmp .le 8, 3) := by decide +kernel
set_option maxRecDepth 20000 in
theorem d_173_33 : decode (js_b 173) 33 = .ok (.iload 5, 2) := by decide +kernel
set_option maxRecDepth 20000 in
theorem d_173_35 : decode (js_b 173) 35 = .ok (.goto 5, 3) := by decide +kernel
set_option maxRecDepth 20000 in
theorem d_173_38 : decode (js_b 173) 38 = .ok (.iload 4, 2) := by decide +kernel
set_option maxRecDepth 20000 in
theorem d_173_40 : decode (js_b 173) 40 = .ok (.istore 4, 2) := by decide +kernel
set_option maxRecDepth 20000 in
theorem d_173_42 : decode (js_b 173) 42 = .ok (.iinc 5 1, 3) := by decide +kernel
set_option maxRecDepth 20000 in
theorem d_173_45 : decode (js_b 173) 45 = .ok (.goto (-39), 3) := by decide +kernel
set_option maxRecDepth 20000 in
theorem d_173_48 : decode (js_b 173) 48 = .ok (.iload 4, 2) := by decide +kernel
set_option maxRecDepth 20000 in
theorem d_173_50 : decode (js_b 173) 50 = .ok (.ireturn, 1) := by decide +kernel
theorem ki_173_15 : js_OkG 173 15 (o_il 3 16) := js_St.okG (st_iloadn rfl d_173_15) (fun _ _ _ _ _ => rfl)
theorem ki_173_14 : js_OkG 173 14 (o_il 2 15) := js_St.okG (st_iloadn rfl d_173_14) (fun _ _ _ _ _ => rfl)
theorem ki_173_13 : js_OkG 173 13 (o_il 1 14) := js_St.okG (st_iloadn rfl d_173_13) (fun _ _ _ _ _ => rfl)
theorem ki_173_12 : js_OkG 173 12 (o_al 0 13) := js_St.okG (st_aloadn rfl d_173_12) (fun _ _ _ _ _ => rfl)
theorem ki_173_9 : js_OkG 173 9 (o_cge 48 12) := js_St.okG (st_icge (by decide) d_173_9) (fun _ _ _ _ _ => rfl)
theorem ki_173_8 : js_OkG 173 8 (o_ic 4 9) := js_St.okG (st_iconst rfl d_173_8) (fun _ _ _ _ _ => rfl)
theorem ki_173_6 : js_OkG 173 6 (o_il 5 8) := js_St.okG (st_iload d_173_6) (fun _ _ _ _ _ => rfl)
theorem ki_173_4 : js_OkG 173 4 (o_is 5 6) := js_St.okG (st_istore (Nat.le_of_ble_eq_true rfl) d_173_4) (fun _ _ _ _ _ => rfl)
theorem ki_173_3 : js_OkG 173 3 (o_ic 1 4) := js_St.okG (st_iconst rfl d_173_3) (fun _ _ _ _ _ => rfl)
theorem ki_173_1 : js_OkG 173 1 (o_is 4 3) := js_St.okG (st_istore (Nat.le_of_ble_eq_true rfl) d_173_1) (fun _ _ _ _ _ => rfl)
theorem ki_173_0 : js_OkG 173 0 (o_ic 0 1) := js_St.okG (st_iconst rfl d_173_0) (fun _ _ _ _ _ => rfl)
theorem ki_173_30 : js_OkG 173 30 (o_cle 38 33) := js_St.okG (st_icle (by decide) d_173_30) (fun _ _ _ _ _ => rfl)
theorem ki_173_27 : js_OkG 173 27 (o_cI 172 5 0 30) := og_sIP rfl rfl kB_173_172 rfl kw_923 kw_924 d_173_27
theorem ki_173_25 : js_OkG 173 25 (o_il 4 27) := js_St.okG (st_iload d_173_25) (fun _ _ _ _ _ => rfl)
theorem ki_173_24 : js_OkG 173 24 (o_il 3 25) := js_St.okG (st_iloadn rfl d_173_24) (fun _ _ _ _ _ => rfl)
theorem ki_173_23 : js_OkG 173 23 (o_il 2 24) := js_St.okG (st_iloadn rfl d_173_23) (fun _ _ _ _ _ => rfl)
theorem ki_173_22 : js_OkG 173 22 (o_il 1 23) := js_St.okG (st_iloadn rfl d_173_22) (fun _ _ _ _ _ => rfl)
theorem ki_173_21 : js_OkG 173 21 (o_al 0 22) := js_St.okG (st_aloadn rfl d_173_21) (fun _ _ _ _ _ => rfl)
theorem ki_173_18 : js_OkG 173 18 (o_cI 172 5 0 21) := og_sIP rfl rfl kB_173_172 rfl kw_923 kw_924 d_173_18
theorem ki_173_16 : js_OkG 173 16 (o_il 5 18) := js_St.okG (st_iload d_173_16) (fun _ _ _ _ _ => rfl)
theorem ki_173_45 : js_OkG 173 45 (o_go 6) := js_St.okG (st_goto (by decide) d_173_45) (fun _ _ _ _ _ => rfl)
theorem ki_173_42 : js_OkG 173 42 (o_inc 5 1 45) := js_St.okG (st_iinc rfl (Nat.le_of_ble_eq_true rfl) d_173_42) (fun _ _ _ _ _ => rfl)
theorem ki_173_40 : js_OkG 173 40 (o_is 4 42) := js_St.okG (st_istore (Nat.le_of_ble_eq_true rfl) d_173_40) (fun _ _ _ _ _ => rfl)
theorem ki_173_38 : js_OkG 173 38 (o_il 4 40) := js_St.okG (st_iload d_173_38) (fun _ _ _ _ _ => rfl)
theorem ki_173_35 : js_OkG 173 35 (o_go 40) := js_St.okG (st_goto (by decide) d_173_35) (fun _ _ _ _ _ => rfl)
theorem ki_173_33 : js_OkG 173 33 (o_il 5 35) := js_St.okG (st_iload d_173_33) (fun _ _ _ _ _ => rfl)
theorem ki_173_50 : js_OkG 173 50 (o_rI) := og_rI rfl d_173_50
theorem ki_173_48 : js_OkG 173 48 (o_il 4 50) := js_St.okG (st_iload d_173_48) (fun _ _ _ _ _ => rfl)
set_option maxRecDepth 20000 in
theorem mk_173 : js_mokG 173 := jk_tab (fun _ => js_St.okG st_bad (fun _ _ _ _ _ => rfl)) (show jk_all (js_OkG 173) 0 tb_173 from ⟨⟨ki_173_0, ⟨ki_173_1, ⟨kbadG, ⟨ki_173_3, ⟨ki_173_4, ⟨kbadG, ⟨ki_173_6, ⟨kbadG, ⟨ki_173_8, ⟨ki_173_9, ⟨kbadG, ⟨kbadG, ⟨ki_173_12, ⟨ki_173_13, ⟨ki_173_14, ⟨ki_173_15, trivial⟩⟩⟩⟩⟩⟩⟩⟩⟩⟩⟩⟩⟩⟩⟩⟩, ⟨⟨ki_173_16, ⟨kbadG, ⟨ki_173_18, ⟨kbadG, ⟨kbadG, ⟨ki_173_21, ⟨ki_173_22, ⟨ki_173_23, ⟨ki_173_24, ⟨ki_173_25, ⟨kbadG, ⟨ki_173_27, ⟨kbadG, ⟨kbadG, ⟨ki_173_30, ⟨kbadG, trivial⟩⟩⟩⟩⟩⟩⟩⟩⟩⟩⟩⟩⟩⟩⟩⟩, ⟨⟨kbadG, ⟨ki_173_33, ⟨kbadG, ⟨ki_173_35, ⟨kbadG, ⟨kbadG, ⟨ki_173_38, ⟨kbadG, ⟨ki_173_40, ⟨kbadG, ⟨ki_173_42, ⟨kbadG, ⟨kbadG, ⟨ki_173_45, ⟨kbadG, ⟨kbadG, trivial⟩⟩⟩⟩⟩⟩⟩⟩⟩⟩⟩⟩⟩⟩⟩⟩, ⟨⟨ki_173_48, ⟨kbadG, ⟨ki_173_50, trivial⟩⟩⟩, trivial⟩⟩⟩⟩)
set_option maxRecDepth 20000 in
theorem d_174_0 : decode (js_b 174) 0 = .ok (.aload_n 0, 1) := by decide +kernel
set_option maxRecDepth 20000 in
theorem d_174_1 : decode (js_b 174) 1 = .ok (.iload_n 1, 1) := by decide +kernel
set_option maxRecDepth 20000 in
theorem d_174_2 : decode (js_b 174) 2 = .ok (.iload_n 2, 1) := by decide +kernel
set_option maxRecDepth 20000 in
theorem d_174_3 : decode (js_b 174) 3 = .ok (.iload_n 3, 1) := by decide +kernel
set_option maxRecDepth 20000 in
theorem d_174_4 : decode (js_b 174) 4 = .ok (.aload_n 0, 1) := by decide +kernel
set_option maxRecDepth 20000 in
theorem d_174_5 : decode (js_b 174) 5 = .ok (.iload_n 1, 1) := by decide +kernel
set_option maxRecDepth 20000 in
theorem d_174_6 : decode (js_b 174) 6 = .ok (.iload_n 2, 1) := by decide +kernel
set_option maxRecDepth 20000 in
theorem d_174_7 : decode (js_b 174) 7 = .ok (.iload_n 3, 1) := by decide +kernel
set_option maxRecDepth 20000 in
theorem d_174_8 : decode (js_b 174) 8 = .ok (.invokestatic 190, 3) := by decide +kernel
set_option maxRecDepth 20000 in
theorem d_174_11 : decode (js_b 174) 11 = .ok (.invokestatic 186, 3) := by decide +kernel
set_option maxRecDepth 20000 in
theorem d_174_14 : decode (js_b 174) 14 = .ok (.ireturn, 1) := by decide +kernel
theorem ki_174_14 : js_OkG 174 14 (o_rI) := og_rI rfl d_174_14
theorem ki_174_11 : js_OkG 174 11 (o_cI 172 5 0 14) := og_sIP rfl rfl kB_174_172 rfl kw_923 kw_924 d_174_11
theorem ki_174_8 : js_OkG 174 8 (o_cI 173 4 0 11) := og_sIP rfl rfl kB_174_173 rfl kw_932 kw_933 d_174_8
theorem ki_174_7 : js_OkG 174 7 (o_il 3 8) := js_St.okG (st_iloadn rfl d_174_7) (fun _ _ _ _ _ => rfl)
theorem ki_174_6 : js_OkG 174 6 (o_il 2 7) := js_St.okG (st_iloadn rfl d_174_6) (fun _ _ _ _ _ => rfl)
theorem ki_174_5 : js_OkG 174 5 (o_il 1 6) := js_St.okG (st_iloadn rfl d_174_5) (fun _ _ _ _ _ => rfl)
theorem ki_174_4 : js_OkG 174 4 (o_al 0 5) := js_St.okG (st_aloadn rfl d_174_4) (fun _ _ _ _ _ => rfl)
theorem ki_174_3 : js_OkG 174 3 (o_il 3 4) := js_St.okG (st_iloadn rfl d_174_3) (fun _ _ _ _ _ => rfl)
theorem ki_174_2 : js_OkG 174 2 (o_il 2 3) := js_St.okG (st_iloadn rfl d_174_2) (fun _ _ _ _ _ => rfl)
theorem ki_174_1 : js_OkG 174 1 (o_il 1 2) := js_St.okG (st_iloadn rfl d_174_1) (fun _ _ _ _ _ => rfl)
theorem ki_174_0 : js_OkG 174 0 (o_al 0 1) := js_St.okG (st_aloadn rfl d_174_0) (fun _ _ _ _ _ => rfl)
set_option maxRecDepth 20000 in
theorem mk_174 : js_mokG 174 := jk_tab (fun _ => js_St.okG st_bad (fun _ _ _ _ _ => rfl)) (show jk_all (js_OkG 174) 0 tb_174 from ⟨⟨ki_174_0, ⟨ki_174_1, ⟨ki_174_2, ⟨ki_174_3, ⟨ki_174_4, ⟨ki_174_5, ⟨ki_174_6, ⟨ki_174_7, ⟨ki_174_8, ⟨kbadG, ⟨kbadG, ⟨ki_174_11, ⟨kbadG, ⟨kbadG, ⟨ki_174_14, trivial⟩⟩⟩⟩⟩⟩⟩⟩⟩⟩⟩⟩⟩⟩⟩, trivial⟩)
set_option maxRecDepth 20000 in
theorem d_175_0 : decode (js_b 175) 0 = .ok (.bipush (-13), 2) := by decide +kernel
set_option maxRecDepth 20000 in
theorem d_175_2 : decode (js_b 175) 2 = .ok (.istore_n 3, 1) := by decide +kernel
set_option maxRecDepth 20000 in
theorem d_175_3 : decode (js_b 175) 3 = .ok (.iconst 0, 1) := by decide +kernel
set_option maxRecDepth 20000 in
theorem d_175_4 : decode (js_b 175) 4 = .ok (.istore 4, 2) := by decide +kernel
set_option maxRecDepth 20000 in
theorem d_175_6 : decode (js_b 175) 6 = .ok (.iload 4, 2) := by decide +kernel
set_option maxRecDepth 20000 in
theorem d_175_8 : decode (js_b 175) 8 = .ok (.aload_n 0, 1) := by decide +kernel
set_option maxRecDepth 20000 in
theorem d_175_9 : decode (js_b 175) 9 = .ok (.invokevirtual 193, 3) := by decide +kernel
set_option maxRecDepth 20000 in
theorem d_175_12 : decode (js_b 175) 12 = .ok (.if_icmp .ge 46, 3) := by decide +kernel
set_option maxRecDepth 20000 in
theorem d_175_15 : decode (js_b 175) 15 = .ok (.aload_n 0, 1) := by decide +kernel
set_option maxRecDepth 20000 in
theorem d_175_16 : decode (js_b 175) 16 = .ok (.iload 4, 2) := by decide +kernel
set_option maxRecDepth 20000 in
theorem d_175_18 : decode (js_b 175) 18 = .ok (.invokevirtual 24, 3) := by decide +kernel
set_option maxRecDepth 20000 in
theorem d_175_21 : decode (js_b 175) 21 = .ok (.istore 5, 2) := by decide +kernel
set_option maxRecDepth 20000 in
theorem d_175_23 : decode (js_b 175) 23 = .ok (.iload_n 3, 1) := by decide +kernel
set_option maxRecDepth 20000 in
theorem d_175_24 : decode (js_b 175) 24 = .ok (.ifCond .lt 21, 3) := by decide +kernel
set_option maxRecDepth 20000 in
theorem d_175_27 : decode (js_b 175) 27 = .ok (.aload_n 0, 1) := by decide +kernel
set_option maxRecDepth 20000 in
theorem d_175_28 : decode (js_b 175) 28 = .ok (.iload 5, 2) := by decide +kernel
set_option maxRecDepth 20000 in
theorem d_175_30 : decode (js_b 175) 30 = .ok (.iload_n 1, 1) := by decide +kernel
set_option maxRecDepth 20000 in
theorem d_175_31 : decode (js_b 175) 31 = .ok (.iload_n 2, 1) := by decide +kernel
set_option maxRecDepth 20000 in
theorem d_175_32 : decode (js_b 175) 32 = .ok (.invokestatic 196, 3) := by decide +kernel
set_option maxRecDepth 20000 in
theorem d_175_35 : decode (js_b 175) 35 = .ok (.aload_n 0, 1) := by decide +kernel
set_option maxRecDepth 20000 in
theorem d_175_36 : decode (js_b 175) 36 = .ok (.iload_n 3, 1) := by decide +kernel
set_option maxRecDepth 20000 in
theorem d_175_37 : decode (js_b 175) 37 = .ok (.iload_n 1, 1) := by decide +kernel
set_option maxRecDepth 20000 in
theorem d_175_38 : decode (js_b 175) 38 = .ok (.iload_n 2, 1) := by decide +kernel
set_option maxRecDepth 20000 in
theorem d_175_39 : decode (js_b 175) 39 = .ok (.invokestatic 196, 3) := by decide +kernel
set_option maxRecDepth 20000 in
theorem d_175_42 : decode (js_b 175) 42 = .ok (.if_icmp .le 8, 3) := by decide +kernel
set_option maxRecDepth 20000 in
theorem d_175_45 : decode (js_b 175) 45 = .ok (.iload 5, 2) := by decide +kernel
set_option maxRecDepth 20000 in
theorem d_175_47 : decode (js_b 175) 47 = .ok (.goto 4, 3) := by decide +kernel
set_option maxRecDepth 20000 in
theorem d_175_50 : decode (js_b 175) 50 = .ok (.iload_n 3, 1) := by decide +kernel
set_option maxRecDepth 20000 in
theorem d_175_51 : decode (js_b 175) 51 = .ok (.istore_n 3, 1) := by decide +kernel
set_option maxRecDepth 20000 in
theorem d_175_52 : decode (js_b 175) 52 = .ok (.iinc 4 1, 3) := by decide +kernel
set_option maxRecDepth 20000 in
theorem d_175_55 : decode (js_b 175) 55 = .ok (.goto (-49), 3) := by decide +kernel
set_option maxRecDepth 20000 in
theorem d_175_58 : decode (js_b 175) 58 = .ok (.iload_n 3, 1) := by decide +kernel
set_option maxRecDepth 20000 in
theorem d_175_59 : decode (js_b 175) 59 = .ok (.ireturn, 1) := by decide +kernel
theorem ki_175_15 : js_OkG 175 15 (o_al 0 16) := js_St.okG (st_aloadn rfl d_175_15) (fun _ _ _ _ _ => rfl)
theorem ki_175_12 : js_OkG 175 12 (o_cge 58 15) := js_St.okG (st_icge (by decide) d_175_12) (fun _ _ _ _ _ => rfl)
theorem ki_175_9 : js_OkG 175 9 (o_cI 63 1 8 12) := og_cI (site_V kk_175_63 (by decide) kw_750 kw_751 kw_752 (fun t ht => by cases ht; exact Or.inl ⟨by decide, _, rfl, rfl⟩) d_175_9) rfl rfl
theorem ki_175_8 : js_OkG 175 8 (o_al 0 9) := js_St.okG (st_aloadn rfl d_175_8) (fun _ _ _ _ _ => rfl)
theorem ki_175_6 : js_OkG 175 6 (o_il 4 8) := js_St.okG (st_iload d_175_6) (fun _ _ _ _ _ => rfl)
theorem ki_175_4 : js_OkG 175 4 (o_is 4 6) := js_St.okG (st_istore (Nat.le_of_ble_eq_true rfl) d_175_4) (fun _ _ _ _ _ => rfl)
theorem ki_175_3 : js_OkG 175 3 (o_ic 0 4) := js_St.okG (st_iconst rfl d_175_3) (fun _ _ _ _ _ => rfl)
theorem ki_175_2 : js_OkG 175 2 (o_is 3 3) := js_St.okG (st_istoren rfl (Nat.le_of_ble_eq_true rfl) d_175_2) (fun _ _ _ _ _ => rfl)
theorem ki_175_0 : js_OkG 175 0 (o_ic (-13) 2) := js_St.okG (st_bipush rfl d_175_0) (fun _ _ _ _ _ => rfl)
theorem ki_175_31 : js_OkG 175 31 (o_il 2 32) := js_St.okG (st_iloadn rfl d_175_31) (fun _ _ _ _ _ => rfl)
theorem ki_175_30 : js_OkG 175 30 (o_il 1 31) := js_St.okG (st_iloadn rfl d_175_30) (fun _ _ _ _ _ => rfl)
theorem ki_175_28 : js_OkG 175 28 (o_il 5 30) := js_St.okG (st_iload d_175_28) (fun _ _ _ _ _ => rfl)
theorem ki_175_27 : js_OkG 175 27 (o_al 0 28) := js_St.okG (st_aloadn rfl d_175_27) (fun _ _ _ _ _ => rfl)
theorem ki_175_24 : js_OkG 175 24 (o_lt 45 27) := js_St.okG (st_iflt (by decide) d_175_24) (fun _ _ _ _ _ => rfl)
theorem ki_175_23 : js_OkG 175 23 (o_il 3 24) := js_St.okG (st_iloadn rfl d_175_23) (fun _ _ _ _ _ => rfl)
theorem ki_175_21 : js_OkG 175 21 (o_is 5 23) := js_St.okG (st_istore (Nat.le_of_ble_eq_true rfl) d_175_21) (fun _ _ _ _ _ => rfl)
theorem ki_175_18 : js_OkG 175 18 (o_cI 64 2 8 21) := og_cI (site_V kk_175_64 (by decide) kw_670 kw_671 kw_672 (fun t ht => by cases ht; exact Or.inl ⟨by decide, _, rfl, rfl⟩) d_175_18) rfl rfl
theorem ki_175_16 : js_OkG 175 16 (o_il 4 18) := js_St.okG (st_iload d_175_16) (fun _ _ _ _ _ => rfl)
theorem ki_175_47 : js_OkG 175 47 (o_go 51) := js_St.okG (st_goto (by decide) d_175_47) (fun _ _ _ _ _ => rfl)
theorem ki_175_45 : js_OkG 175 45 (o_il 5 47) := js_St.okG (st_iload d_175_45) (fun _ _ _ _ _ => rfl)
theorem ki_175_42 : js_OkG 175 42 (o_cle 50 45) := js_St.okG (st_icle (by decide) d_175_42) (fun _ _ _ _ _ => rfl)
theorem ki_175_39 : js_OkG 175 39 (o_cI 174 4 0 42) := og_sIP rfl rfl kB_175_174 rfl kw_929 kw_930 d_175_39
theorem ki_175_38 : js_OkG 175 38 (o_il 2 39) := js_St.okG (st_iloadn rfl d_175_38) (fun _ _ _ _ _ => rfl)
theorem ki_175_37 : js_OkG 175 37 (o_il 1 38) := js_St.okG (st_iloadn rfl d_175_37) (fun _ _ _ _ _ => rfl)
theorem ki_175_36 : js_OkG 175 36 (o_il 3 37) := js_St.okG (st_iloadn rfl d_175_36) (fun _ _ _ _ _ => rfl)
theorem ki_175_35 : js_OkG 175 35 (o_al 0 36) := js_St.okG (st_aloadn rfl d_175_35) (fun _ _ _ _ _ => rfl)
theorem ki_175_32 : js_OkG 175 32 (o_cI 174 4 0 35) := og_sIP rfl rfl kB_175_174 rfl kw_929 kw_930 d_175_32
theorem ki_175_59 : js_OkG 175 59 (o_rI) := og_rI rfl d_175_59
theorem ki_175_58 : js_OkG 175 58 (o_il 3 59) := js_St.okG (st_iloadn rfl d_175_58) (fun _ _ _ _ _ => rfl)
theorem ki_175_55 : js_OkG 175 55 (o_go 6) := js_St.okG (st_goto (by decide) d_175_55) (fun _ _ _ _ _ => rfl)
theorem ki_175_52 : js_OkG 175 52 (o_inc 4 1 55) := js_St.okG (st_iinc rfl (Nat.le_of_ble_eq_true rfl) d_175_52) (fun _ _ _ _ _ => rfl)
theorem ki_175_51 : js_OkG 175 51 (o_is 3 52) := js_St.okG (st_istoren rfl (Nat.le_of_ble_eq_true rfl) d_175_51) (fun _ _ _ _ _ => rfl)
theorem ki_175_50 : js_OkG 175 50 (o_il 3 51) := js_St.okG (st_iloadn rfl d_175_50) (fun _ _ _ _ _ => rfl)
set_option maxRecDepth 20000 in
theorem mk_175 : js_mokG 175 := jk_tab (fun _ => js_St.okG st_bad (fun _ _ _ _ _ => rfl)) (show jk_all (js_OkG 175) 0 tb_175 from ⟨⟨ki_175_0, ⟨kbadG, ⟨ki_175_2, ⟨ki_175_3, ⟨ki_175_4, ⟨kbadG, ⟨ki_175_6, ⟨kbadG, ⟨ki_175_8, ⟨ki_175_9, ⟨kbadG, ⟨kbadG, ⟨ki_175_12, ⟨kbadG, ⟨kbadG, ⟨ki_175_15, trivial⟩⟩⟩⟩⟩⟩⟩⟩⟩⟩⟩⟩⟩⟩⟩⟩, ⟨⟨ki_175_16, ⟨kbadG, ⟨ki_175_18, ⟨kbadG, ⟨kbadG, ⟨ki_175_21, ⟨kbadG, ⟨ki_175_23, ⟨ki_175_24, ⟨kbadG, ⟨kbadG, ⟨ki_175_27, ⟨ki_175_28, ⟨kbadG, ⟨ki_175_30, ⟨ki_175_31, trivial⟩⟩⟩⟩⟩⟩⟩⟩⟩⟩⟩⟩⟩⟩⟩⟩, ⟨⟨ki_175_32, ⟨kbadG, ⟨kbadG, ⟨ki_175_35, ⟨ki_175_36, ⟨ki_175_37, ⟨ki_175_38, ⟨ki_175_39, ⟨kbadG, ⟨kbadG, ⟨ki_175_42, ⟨kbadG, ⟨kbadG, ⟨ki_175_45, ⟨kbadG, ⟨ki_175_47, trivial⟩⟩⟩⟩⟩⟩⟩⟩⟩⟩⟩⟩⟩⟩⟩⟩, ⟨⟨kbadG, ⟨kbadG, ⟨ki_175_50, ⟨ki_175_51, ⟨ki_175_52, ⟨kbadG, ⟨kbadG, ⟨ki_175_55, ⟨kbadG, ⟨kbadG, ⟨ki_175_58, ⟨ki_175_59, trivial⟩⟩⟩⟩⟩⟩⟩⟩⟩⟩⟩⟩, trivial⟩⟩⟩⟩)
end JS
