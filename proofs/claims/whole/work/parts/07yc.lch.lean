/-! The law's plain calls and changes. -/
section JX
theorem rl_fst {R : ro_R} {M1 M2 : mm_T} {X : Option mm_T × Nat × (Nat → mm_T) × (Nat × (Nat → Nat)) × (Nat × (Nat → Nat)) × Int32 × Int32} (H : rl_R R (M1, X)) : rl_R R (M2, X) := H
section LW
variable {xs : List Int32} {n c b : Nat} {h : jx_H} {C : cl_T} {S : Nat → Nat} {th : Int32} {R : ro_R} {v5 x1 x2 x3 x4 x5 : Int32} {v6 v7 v8 : Value}
theorem rl_done (H : rl_R R C) (Q : ro_S S C.1) (O : mm_ok C.1) (M' : mm_T) : rl_R (ro_P (ro_B R S) (ro_ps8 (ro_B R S)).1 (ro_ps8 (ro_B R S)).2) (cl_push (cl_M C M') C.1) :=
  rl_fst (M1 := C.1) (M2 := M') (X := (cl_push C C.1).2) (rl_push (R := ro_B R S) (C := C) (rl_B H S) Q O)
theorem lc_438 (L : lw_I xs n c h C S th R b) : lc_P xs n c b v5 (jx_E 293 438 [.ref 199, .ref 200, .ref 711, .ref 719, .ref 720, .int v5, v6, v7, v8] [] h) := by
  obtain ⟨K, I, J, Q, O, H, N, -⟩ := id L
  have hc : co_P h C (jx_A 62 [.ref 200] h) (.inl (.int (nI C.1.1))) := ⟨h, c_62 I, I, mz_eq_rf⟩
  obtain ⟨h3, S', R', X, L'⟩ := lw_pl (mm := 164) (bs := [.ref 711]) (F := fun h3 => jx_E 293 2851 [.ref 199, .ref 200, .ref 711, .ref 719, .ref 720, .int v5, v6, v7, v8] [] h3) (N := fun h3 => some (.inl (some (.int 0)), h3)) (X := jx_E 293 438 [.ref 199, .ref 200, .ref 711, .ref 719, .ref 720, .int v5, v6, v7, v8] [] h) L hc (fun h2 J2 => by
    obtain ⟨h', x, J', t⟩ := m_164 J2 Q
    exact ⟨h', S, R, x, J', t, Q, H⟩) O (rl_N_w N (Nat.le_add_right b 13)) (fun h1 h3 K1 J1 e1 e2 => by rw [b_293_438, cl_I_is I, jx_cI_e e1, ro_is J1, jx_cI_e e2])
  exact ⟨h3, v6, v7, v8, C, S', 0, R', X, L'⟩
theorem lc_451 (L : lw_I xs n c h C S th R b) : lc_P xs n c b v5 (jx_E 293 451 [.ref 199, .ref 200, .ref 711, .ref 719, .ref 720, .int v5, v6, v7, v8] [] h) := by
  obtain ⟨K, I, J, Q, O, H, N, -⟩ := id L
  have hc : co_P h C (jx_A 63 [.ref 200] h) (.inl (.int (nI (mm_lo C.1)))) := ⟨h, c_63 I, I, mz_eq_rf⟩
  obtain ⟨h3, S', R', X, L'⟩ := lw_pl (mm := 165) (bs := [.ref 711]) (F := fun h3 => jx_E 293 2851 [.ref 199, .ref 200, .ref 711, .ref 719, .ref 720, .int v5, v6, v7, v8] [] h3) (N := fun h3 => some (.inl (some (.int 0)), h3)) (X := jx_E 293 451 [.ref 199, .ref 200, .ref 711, .ref 719, .ref 720, .int v5, v6, v7, v8] [] h) L hc (fun h2 J2 => by
    obtain ⟨h', x, J', t⟩ := m_165 J2 Q
    exact ⟨h', S, R, x, J', t, Q, H⟩) O (rl_N_w N (Nat.le_add_right b 13)) (fun h1 h3 K1 J1 e1 e2 => by rw [b_293_451, cl_I_is I, jx_cI_e e1, ro_is J1, jx_cI_e e2])
  exact ⟨h3, v6, v7, v8, C, S', 0, R', X, L'⟩
theorem lc_844 (L : lw_I xs n c h C S th R b) : lc_P xs n c b v5 (jx_E 293 844 [.ref 199, .ref 200, .ref 711, .ref 719, .ref 720, .int v5, v6, v7, v8] [] h) := by
  obtain ⟨K, I, J, Q, O, H, N, -⟩ := id L
  have hc : co_P h C (jx_A 71 [.ref 200] h) (.inl (.int (nI (mm_dp C.1)))) := ⟨h, c_71 I, I, mz_eq_rf⟩
  obtain ⟨h3, S', R', X, L'⟩ := lw_pl (mm := 173) (bs := [.ref 711]) (F := fun h3 => jx_E 293 2851 [.ref 199, .ref 200, .ref 711, .ref 719, .ref 720, .int v5, v6, v7, v8] [] h3) (N := fun h3 => some (.inl (some (.int 0)), h3)) (X := jx_E 293 844 [.ref 199, .ref 200, .ref 711, .ref 719, .ref 720, .int v5, v6, v7, v8] [] h) L hc (fun h2 J2 => by
    obtain ⟨h', x, J', t⟩ := m_173 J2 Q
    exact ⟨h', S, R, x, J', t, Q, H⟩) O (rl_N_w N (Nat.le_add_right b 13)) (fun h1 h3 K1 J1 e1 e2 => by rw [b_293_844, cl_I_is I, jx_cI_e e1, ro_is J1, jx_cI_e e2])
  exact ⟨h3, v6, v7, v8, C, S', 0, R', X, L'⟩
theorem lc_1452 (L : lw_I xs n c h C S th R b) : lc_P xs n c b v5 (jx_E 293 1452 [.ref 199, .ref 200, .ref 711, .ref 719, .ref 720, .int v5, v6, v7, v8] [] h) := by
  obtain ⟨K, I, J, Q, O, H, N, -⟩ := id L
  have hc : co_P h C (jx_A 84 [.ref 200] h) (.inl (.int (nI (mz_su (fun c => (mm_gap C.1.2.2.2 c).toNat) 64)))) := ⟨h, c_84 K I, I, mz_eq_rf⟩
  obtain ⟨h3, S', R', X, L'⟩ := lw_pl (mm := 205) (bs := [.ref 711]) (F := fun h3 => jx_E 293 2851 [.ref 199, .ref 200, .ref 711, .ref 719, .ref 720, .int v5, v6, v7, v8] [] h3) (N := fun h3 => some (.inl (some (.int 0)), h3)) (X := jx_E 293 1452 [.ref 199, .ref 200, .ref 711, .ref 719, .ref 720, .int v5, v6, v7, v8] [] h) L hc (fun h2 J2 => by
    obtain ⟨h', x, J', t⟩ := m_205 J2 Q
    exact ⟨h', S, R, x, J', t, Q, H⟩) O (rl_N_w N (Nat.le_add_right b 13)) (fun h1 h3 K1 J1 e1 e2 => by rw [b_293_1452, cl_I_is I, jx_cI_e e1, ro_is J1, jx_cI_e e2])
  exact ⟨h3, v6, v7, v8, C, S', 0, R', X, L'⟩
theorem lc_1465 (L : lw_I xs n c h C S th R b) : lc_P xs n c b v5 (jx_E 293 1465 [.ref 199, .ref 200, .ref 711, .ref 719, .ref 720, .int v5, v6, v7, v8] [] h) := by
  obtain ⟨K, I, J, Q, O, H, N, -⟩ := id L
  have hc : co_P h C (jx_A 85 [.ref 200] h) (.inl (.int (nI (mm_pr C.1 1)))) := ⟨h, c_85 K I, I, mz_eq_rf⟩
  obtain ⟨h3, S', R', X, L'⟩ := lw_pl (mm := 206) (bs := [.ref 711]) (F := fun h3 => jx_E 293 2851 [.ref 199, .ref 200, .ref 711, .ref 719, .ref 720, .int v5, v6, v7, v8] [] h3) (N := fun h3 => some (.inl (some (.int 0)), h3)) (X := jx_E 293 1465 [.ref 199, .ref 200, .ref 711, .ref 719, .ref 720, .int v5, v6, v7, v8] [] h) L hc (fun h2 J2 => by
    obtain ⟨h', x, J', t⟩ := m_206 J2 Q
    exact ⟨h', S, R, x, J', t, Q, H⟩) O (rl_N_w N (Nat.le_add_right b 13)) (fun h1 h3 K1 J1 e1 e2 => by rw [b_293_1465, cl_I_is I, jx_cI_e e1, ro_is J1, jx_cI_e e2])
  exact ⟨h3, v6, v7, v8, C, S', 0, R', X, L'⟩
theorem lc_1478 (L : lw_I xs n c h C S th R b) : lc_P xs n c b v5 (jx_E 293 1478 [.ref 199, .ref 200, .ref 711, .ref 719, .ref 720, .int v5, v6, v7, v8] [] h) := by
  obtain ⟨K, I, J, Q, O, H, N, -⟩ := id L
  have hc : co_P h C (jx_A 86 [.ref 200] h) (.inl (.int (nI (mm_pr C.1 2)))) := ⟨h, c_86 K I, I, mz_eq_rf⟩
  obtain ⟨h3, S', R', X, L'⟩ := lw_pl (mm := 207) (bs := [.ref 711]) (F := fun h3 => jx_E 293 2851 [.ref 199, .ref 200, .ref 711, .ref 719, .ref 720, .int v5, v6, v7, v8] [] h3) (N := fun h3 => some (.inl (some (.int 0)), h3)) (X := jx_E 293 1478 [.ref 199, .ref 200, .ref 711, .ref 719, .ref 720, .int v5, v6, v7, v8] [] h) L hc (fun h2 J2 => by
    obtain ⟨h', x, J', t⟩ := m_207 J2 Q
    exact ⟨h', S, R, x, J', t, Q, H⟩) O (rl_N_w N (Nat.le_add_right b 13)) (fun h1 h3 K1 J1 e1 e2 => by rw [b_293_1478, cl_I_is I, jx_cI_e e1, ro_is J1, jx_cI_e e2])
  exact ⟨h3, v6, v7, v8, C, S', 0, R', X, L'⟩
theorem lc_2010 (L : lw_I xs n c h C S th R b) : lc_P xs n c b v5 (jx_E 293 2010 [.ref 199, .ref 200, .ref 711, .ref 719, .ref 720, .int v5, v6, v7, v8] [] h) := by
  obtain ⟨K, I, J, Q, O, H, N, -⟩ := id L
  have hc : co_P h C (jx_A 94 [.ref 200] h) (.inl (.int (nI (mm_gc C.1.2.2.2)))) := by obtain ⟨h1, x, I1, t⟩ := c_94 K I; exact ⟨h1, x, I1, t⟩
  obtain ⟨h3, S', R', X, L'⟩ := lw_pl (mm := 213) (bs := [.ref 711]) (F := fun h3 => jx_E 293 2851 [.ref 199, .ref 200, .ref 711, .ref 719, .ref 720, .int v5, v6, v7, v8] [] h3) (N := fun h3 => some (.inl (some (.int 0)), h3)) (X := jx_E 293 2010 [.ref 199, .ref 200, .ref 711, .ref 719, .ref 720, .int v5, v6, v7, v8] [] h) L hc (fun h2 J2 => by
    obtain ⟨h', x, J', t⟩ := m_213 J2 Q
    exact ⟨h', S, R, x, J', t, Q, H⟩) O (rl_N_w N (Nat.le_add_right b 13)) (fun h1 h3 K1 J1 e1 e2 => by rw [b_293_2010, cl_I_is I, jx_cI_e e1, ro_is J1, jx_cI_e e2])
  exact ⟨h3, v6, v7, v8, C, S', 0, R', X, L'⟩
theorem lc_2023 (L : lw_I xs n c h C S th R b) : lc_P xs n c b v5 (jx_E 293 2023 [.ref 199, .ref 200, .ref 711, .ref 719, .ref 720, .int v5, v6, v7, v8] [] h) := by
  obtain ⟨K, I, J, Q, O, H, N, -⟩ := id L
  have hc : co_P h C (jx_A 95 [.ref 200] h) (.inl (.int (nI (mm_gc C.1.2.2.2)))) := by obtain ⟨h1, x, I1, t⟩ := c_95 K I; exact ⟨h1, x, I1, t⟩
  obtain ⟨h3, S', R', X, L'⟩ := lw_pl (mm := 214) (bs := [.ref 711]) (F := fun h3 => jx_E 293 2851 [.ref 199, .ref 200, .ref 711, .ref 719, .ref 720, .int v5, v6, v7, v8] [] h3) (N := fun h3 => some (.inl (some (.int 0)), h3)) (X := jx_E 293 2023 [.ref 199, .ref 200, .ref 711, .ref 719, .ref 720, .int v5, v6, v7, v8] [] h) L hc (fun h2 J2 => by
    obtain ⟨h', x, J', t⟩ := m_214 J2 Q
    exact ⟨h', S, R, x, J', t, Q, H⟩) O (rl_N_w N (Nat.le_add_right b 13)) (fun h1 h3 K1 J1 e1 e2 => by rw [b_293_2023, cl_I_is I, jx_cI_e e1, ro_is J1, jx_cI_e e2])
  exact ⟨h3, v6, v7, v8, C, S', 0, R', X, L'⟩
theorem lc_2366 (L : lw_I xs n c h C S th R b) : lc_P xs n c b v5 (jx_E 293 2366 [.ref 199, .ref 200, .ref 711, .ref 719, .ref 720, .int v5, v6, v7, v8] [] h) := by
  obtain ⟨K, I, J, Q, O, H, N, -⟩ := id L
  have hc : co_P h C (jx_A 102 [.ref 200] h) (.inl (.int (1))) := by obtain ⟨h1, x, I1, t⟩ := c_102 K I; exact ⟨h1, x, I1, t⟩
  obtain ⟨h3, S', R', X, L'⟩ := lw_pl (mm := 221) (bs := [.ref 711]) (F := fun h3 => jx_E 293 2851 [.ref 199, .ref 200, .ref 711, .ref 719, .ref 720, .int v5, v6, v7, v8] [] h3) (N := fun h3 => some (.inl (some (.int 0)), h3)) (X := jx_E 293 2366 [.ref 199, .ref 200, .ref 711, .ref 719, .ref 720, .int v5, v6, v7, v8] [] h) L hc (fun h2 J2 => by
    obtain ⟨h', x, J', t⟩ := m_221 J2
    exact ⟨h', S, R, x, J', t, Q, H⟩) O (rl_N_w N (Nat.le_add_right b 13)) (fun h1 h3 K1 J1 e1 e2 => by rw [b_293_2366, cl_I_is I, jx_cI_e e1, ro_is J1, jx_cI_e e2])
  exact ⟨h3, v6, v7, v8, C, S', 0, R', X, L'⟩
theorem lc_1353 (L : lw_I xs n c h C S th R b) : lc_P xs n c b v5 (jx_E 293 1353 [.ref 199, .ref 200, .ref 711, .ref 719, .ref 720, .int v5, v6, v7, v8] [] h) := by
  obtain ⟨K, I, J, Q, O, H, N, -⟩ := id L
  have hc : co_P h C (jx_A 80 [.ref 200] h) (.inl (.long (mm_pm C.1))) := ⟨h, c_80 I, I, mz_eq_rf⟩
  obtain ⟨h3, S', R', X, L'⟩ := lw_plL (mm := 201) (bs := [.ref 711]) (F := fun h3 => jx_E 293 2851 [.ref 199, .ref 200, .ref 711, .ref 719, .ref 720, .int v5, v6, v7, v8] [] h3) (N := fun h3 => some (.inl (some (.int 0)), h3)) (X := jx_E 293 1353 [.ref 199, .ref 200, .ref 711, .ref 719, .ref 720, .int v5, v6, v7, v8] [] h) L hc (fun h2 J2 => by
    obtain ⟨h', x, J', t⟩ := m_201 J2 Q
    exact ⟨h', S, R, x, J', t, Q, H⟩) O (rl_N_w N (Nat.le_add_right b 13)) (fun h1 h3 K1 J1 e1 e2 => by rw [b_293_1353, cl_I_is I, jx_cL_e e1, ro_is J1, jx_cL_e e2])
  exact ⟨h3, v6, v7, v8, C, S', 0, R', X, L'⟩
theorem lc_1424 (L : lw_I xs n c h C S th R b) : lc_P xs n c b v5 (jx_E 293 1424 [.ref 199, .ref 200, .ref 711, .ref 719, .ref 720, .int v5, v6, v7, v8] [] h) := by
  obtain ⟨K, I, J, Q, O, H, N, -⟩ := id L
  have hc : co_P h C (jx_A 82 [.ref 200] h) (.inl (.long (mm_gm C.1))) := ⟨h, c_82 K I, I, mz_eq_rf⟩
  obtain ⟨h3, S', R', X, L'⟩ := lw_plL (mm := 203) (bs := [.ref 711]) (F := fun h3 => jx_E 293 2851 [.ref 199, .ref 200, .ref 711, .ref 719, .ref 720, .int v5, v6, v7, v8] [] h3) (N := fun h3 => some (.inl (some (.int 0)), h3)) (X := jx_E 293 1424 [.ref 199, .ref 200, .ref 711, .ref 719, .ref 720, .int v5, v6, v7, v8] [] h) L hc (fun h2 J2 => by
    obtain ⟨h', x, J', t⟩ := m_203 J2 Q
    exact ⟨h', S, R, x, J', t, Q, H⟩) O (rl_N_w N (Nat.le_add_right b 13)) (fun h1 h3 K1 J1 e1 e2 => by rw [b_293_1424, cl_I_is I, jx_cL_e e1, ro_is J1, jx_cL_e e2])
  exact ⟨h3, v6, v7, v8, C, S', 0, R', X, L'⟩
theorem lc_1438 (L : lw_I xs n c h C S th R b) : lc_P xs n c b v5 (jx_E 293 1438 [.ref 199, .ref 200, .ref 711, .ref 719, .ref 720, .int v5, v6, v7, v8] [] h) := by
  obtain ⟨K, I, J, Q, O, H, N, -⟩ := id L
  have hc : co_P h C (jx_A 83 [.ref 200] h) (.inl (.long (mm_gm C.1))) := ⟨h, c_83 I, I, mz_eq_rf⟩
  obtain ⟨h3, S', R', X, L'⟩ := lw_plL (mm := 204) (bs := [.ref 711]) (F := fun h3 => jx_E 293 2851 [.ref 199, .ref 200, .ref 711, .ref 719, .ref 720, .int v5, v6, v7, v8] [] h3) (N := fun h3 => some (.inl (some (.int 0)), h3)) (X := jx_E 293 1438 [.ref 199, .ref 200, .ref 711, .ref 719, .ref 720, .int v5, v6, v7, v8] [] h) L hc (fun h2 J2 => by
    obtain ⟨h', x, J', t⟩ := m_204 J2 Q
    exact ⟨h', S, R, x, J', t, Q, H⟩) O (rl_N_w N (Nat.le_add_right b 13)) (fun h1 h3 K1 J1 e1 e2 => by rw [b_293_1438, cl_I_is I, jx_cL_e e1, ro_is J1, jx_cL_e e2])
  exact ⟨h3, v6, v7, v8, C, S', 0, R', X, L'⟩
theorem lc_2781 (L : lw_I xs n c h C S th R b) : lc_P xs n c b v5 (jx_E 293 2781 [.ref 199, .ref 200, .ref 711, .ref 719, .ref 720, .int v5, v6, v7, v8] [] h) := by
  obtain ⟨K, I, J, Q, O, H, N, -⟩ := id L
  have e0 : ro_pm R = C.2.2.1 := H.2.1.1
  have hc : co_P h C (jx_A 111 [.ref 200] h) (.inl (.int (nI C.2.2.1))) := ⟨h, c_111 I, I, mz_eq_rf⟩
  obtain ⟨h3, S', R', X, L'⟩ := lw_pl (mm := 238) (bs := [.ref 711]) (F := fun h3 => jx_E 293 2851 [.ref 199, .ref 200, .ref 711, .ref 719, .ref 720, .int v5, v6, v7, v8] [] h3) (N := fun h3 => some (.inl (some (.int 0)), h3)) (X := jx_E 293 2781 [.ref 199, .ref 200, .ref 711, .ref 719, .ref 720, .int v5, v6, v7, v8] [] h) L hc (fun h2 J2 => by
    obtain ⟨h', x, J', t⟩ := m_238 J2
    rw [e0] at x
    exact ⟨h', S, R, x, J', t, Q, H⟩) O (rl_N_w N (Nat.le_add_right b 13)) (fun h1 h3 K1 J1 e1 e2 => by rw [b_293_2781, cl_I_is I, jx_cI_e e1, ro_is J1, jx_cI_e e2])
  exact ⟨h3, v6, v7, v8, C, S', 0, R', X, L'⟩
theorem rl_save (H : rl_R R C) (Q : ro_S S C.1) (O : mm_ok C.1) : rl_R (ro_V R S) (cl_save C) := by
  obtain ⟨a1, a2, a3, a4, a5, a6⟩ := H
  exact ⟨⟨rfl, fun T e => by cases e; exact ⟨Q, O⟩⟩, a2, a3, a4, a5, a6⟩
theorem lc_2794 (L : lw_I xs n c h C S th R b) : lc_P xs n c b v5 (jx_E 293 2794 [.ref 199, .ref 200, .ref 711, .ref 719, .ref 720, .int v5, v6, v7, v8] [] h) := by
  obtain ⟨K, I, J, Q, O, H, N, -⟩ := id L
  have hc : co_P h (cl_save C) (jx_A 112 [.ref 200] h) (.inl (.int (nI C.1.1))) := by obtain ⟨h1, x, I1, t⟩ := c_112 I; exact ⟨h1, x, I1, t⟩
  have N' : rl_N (cl_save C) (b + 13) := ⟨Nat.le_trans N.1 (Nat.le_add_right b 13), fun T e => by cases e; exact Nat.le_trans N.1 (Nat.le_add_right b 13), fun j hj => Nat.le_trans (N.2.2 j hj) (Nat.le_add_right b 13)⟩
  obtain ⟨h3, S', R', X, L'⟩ := lw_pl (mm := 239) (bs := [.ref 711]) (F := fun h3 => jx_E 293 2851 [.ref 199, .ref 200, .ref 711, .ref 719, .ref 720, .int v5, v6, v7, v8] [] h3) (N := fun h3 => some (.inl (some (.int 0)), h3)) (X := jx_E 293 2794 [.ref 199, .ref 200, .ref 711, .ref 719, .ref 720, .int v5, v6, v7, v8] [] h) L hc (fun h2 J2 => by
    obtain ⟨h', x, J', t⟩ := m_239 J2 Q
    exact ⟨h', S, ro_V R S, x, J', t, Q, rl_save H Q O⟩) O N' (fun h1 h3 K1 J1 e1 e2 => by rw [b_293_2794, cl_I_is I, jx_cI_e e1, ro_is J1, jx_cI_e e2])
  exact ⟨h3, v6, v7, v8, cl_save C, S', 0, R', X, L'⟩
theorem lc_520 (L : lw_I xs n c h C S th R b) (Sc : lc_S xs v5 x1 x2 x3 x4 x5) : lc_P xs n c b v5 (jx_E 293 520 [.ref 199, .ref 200, .ref 711, .ref 719, .ref 720, .int v5, v6, v7, v8] [] h) := by
  obtain ⟨K, I, J, Q, O, H, N, -⟩ := id L
  obtain ⟨o, h1, ⟨t, ft, rfl⟩, x0, I1, t1⟩ := c_65 I x1
  have hc : co_P h C (jx_A 65 [.ref 200, .int x1] h) (.inl (.int (bI t.isSome))) := ⟨h1, x0, I1, t1⟩
  obtain ⟨h3, S', R', X, L'⟩ := lw_pl (mm := 167) (bs := [.ref 711, .int x1]) (F := fun h3 => jx_E 293 2851 [.ref 199, .ref 200, .ref 711, .ref 719, .ref 720, .int v5, v6, v7, v8] [] h3) (N := fun h3 => some (.inl (some (.int 0)), h3)) (X := jx_E 293 520 [.ref 199, .ref 200, .ref 711, .ref 719, .ref 720, .int v5, v6, v7, v8] [] h) L hc (fun h2 J2 => by
    obtain ⟨o', h', ⟨t', ft', rfl⟩, t3, x, J'⟩ := m_167 J2 Q O x1
    have e := mm_fd_u ft ft'
    subst e
    exact ⟨h', S, R, x, J', t3, Q, H⟩) O (rl_N_w N (Nat.le_add_right b 13)) (fun h1 h3 K1 J1 e1 e2 => by rw [b_293_520, Sc.1 h K, cl_I_is I, jx_cI_e e1, Sc.1 h1 K1, ro_is J1, jx_cI_e e2])
  exact ⟨h3, v6, v7, v8, C, S', 0, R', X, L'⟩
theorem lc_1197 (L : lw_I xs n c h C S th R b) : lc_P xs n c b v5 (jx_E 293 1197 [.ref 199, .ref 200, .ref 711, .ref 719, .ref 720, .int v5, v6, v7, v8] [] h) := by
  obtain ⟨K, I, J, Q, O, H, N, -⟩ := id L
  obtain ⟨r, M', h1, fl, r20, x0, I1, t1⟩ := c_77 K I
  have hc : co_P h (cl_push (cl_M C M') C.1) (jx_A 77 [.ref 200] h) (.inl (.int (nI r))) := ⟨h1, x0, I1, t1⟩
  have nx : M'.2.1 ≤ b + 13 := by rw [mm_fl_nx 20 _ _ _ fl]; exact Nat.le_trans N.1 (Nat.le_add_right b 13)
  obtain ⟨h3, S', R', X, L'⟩ := lw_pl (mm := 194) (bs := [.ref 711]) (F := fun h3 => jx_E 293 2851 [.ref 199, .ref 200, .ref 711, .ref 719, .ref 720, .int v5, v6, v7, v8] [] h3) (N := fun h3 => some (.inl (some (.int 0)), h3)) (X := jx_E 293 1197 [.ref 199, .ref 200, .ref 711, .ref 719, .ref 720, .int v5, v6, v7, v8] [] h) L hc (fun h2 J2 => by
    rcases m_194 J2 (lw_pm L) Q O with ⟨r', M'', h', S', ⟨n', rfl, fl'⟩, x, J', Q', t⟩ | ⟨e, h', f, -⟩
    · obtain ⟨e1, e2⟩ := mm_fl_u 20 (lw_n L) fl fl'
      subst e1; subst e2
      exact ⟨h', S', _, x, J', t, Q', rl_done H Q O _⟩
    · exact f.elim) (mm_ok_fl 20 O fl) (rl_N_push N (Nat.le_add_right b 13) nx) (fun h1 h3 K1 J1 e1 e2 => by rw [b_293_1197, cl_I_is I, jx_cI_e e1, ro_is J1, jx_cI_e e2])
  exact ⟨h3, v6, v7, v8, cl_push (cl_M C M') C.1, S', 0, R', X, L'⟩
/-- a change on both sides -/
theorem lw_ch {m mm w : Nat} {as bs ws : List Value} {ok : Int32 → mm_T → Prop} {no : Int32 → Prop} {cd : Int32 → Int32} {ces : String → Int32} {F : Int32 → Value → jx_H → jx_R} {N : jx_H → jx_R} {X : jx_R} (L : lw_I xs n c h C S th R b)
    (hcl : cl_C h C (jx_A m as h) ok no) (hmo : ∀ h2, ro_I h2 711 S th R → rd_T h2 711 S R (jx_A mm bs h2) ok no cd) (fn : Fn ok no) (hokM : ∀ r M', ok r M' → mm_ok M' ∧ M'.2.1 ≤ b + 13)
    (hcd : ∀ e s, no e → cl_ex e s → ces s = cd e ∧ cd e ≠ 0)
    (wok : ∀ y h1, jx_A m as h = some (.inl (some (.int y)), h1) → jx_A w ws h = jx_st h1 719 102 0 (.long (cv_I (.int y))) (fun h6 => some (.inl (some (.int 0)), h6)))
    (wex : ∀ e s h1, no e → cl_ex e s → jx_A m as h = some (.inr s, h1) → jx_A w ws h = some (.inl (some (.int (ces s))), h1))
    (hX : ∀ k h2 v h3 t S' R', jx_A w ws h = some (.inl (some (.int k)), h2) → mz_K xs h2 → ro_I h2 711 S th R → jx_A mm bs h2 = some (.inl (some v), h3) → ty_I v → ro_I h3 711 S' t R' → X = if t = k then (if k = 0 then (jx_lL h3 719 102 0 (fun x => if (lg_cmp x (cv_I v)) = 0 then F k v h3 else N h3)) else F k v h3) else N h3) :
    ∃ h3 C' S' R' k v t, X = F k v h3 ∧ lw_I xs (n + 1) (c + 6) h3 C' S' t R' (b + 13) := by
  obtain ⟨K, I, J, Q, O, H, NN, -⟩ := id L
  rcases hcl with ⟨r, M', h1, a1, a2, a3, a4⟩ | ⟨e, s, h1, a1, a1', a2, a3, a4⟩
  · obtain ⟨q1, q2⟩ := hokM r M' a1
    obtain ⟨h3, S', R', k, v, t, X1, L1⟩ := lw_ex (o := .inl (.int r)) (ce := ces) (dv := .int 0) (C' := cl_push (cl_M C M') C.1) (w := w) (ws := ws) (cv := cv_I) (ty := ty_I) (F := F) (N := N) (X := X) L ⟨h1, a2, a3, a4⟩ (fun h2 J2 => by
      rcases hmo h2 J2 with ⟨r', M'', h3, S', b1, b2, b3, b4, b5⟩ | ⟨e, h3, b1, -⟩
      · obtain ⟨e1, e2⟩ := fn.1 _ _ _ _ a1 b1
        subst e1; subst e2
        exact ⟨S', _, ⟨h3, b5, b2, b3⟩, b4, rl_done H Q O _⟩
      · exact (fn.2.1 _ _ _ a1 b1).elim) q1 (rl_N_push NN (Nat.le_add_right b 13) q2) (fun v e => by cases e; exact ⟨r, rfl⟩) ⟨_, rfl⟩ (fun s e => by cases e) (fun v h1 tv e => by
      obtain ⟨y, rfl⟩ := tv
      exact wok y h1 e) (fun s h1 e _ => by cases e) hX
    exact ⟨h3, _, S', R', k, v, t, X1, L1⟩
  · obtain ⟨d1, d2⟩ := hcd e s a1 a1'
    obtain ⟨h3, S', R', k, v, t, X1, L1⟩ := lw_ex (o := .inr s) (ce := ces) (dv := .int 0) (C' := C) (w := w) (ws := ws) (cv := cv_I) (ty := ty_I) (F := F) (N := N) (X := X) L ⟨h1, a2, a3, a4⟩ (fun h2 J2 => by
      rcases hmo h2 J2 with ⟨r', M'', h3, S', b1, -⟩ | ⟨e', h3, b1, b2, b3, b4⟩
      · exact (fn.2.1 _ _ _ b1 a1).elim
      · have e1 := fn.2.2 _ _ a1 b1
        subst e1
        rw [← d1] at b3
        exact ⟨S, ro_B R S, ⟨h3, b4, b2, b3⟩, Q, rl_B H S⟩) O (rl_N_w NN (Nat.le_add_right b 13)) (fun v e => by cases e) ⟨_, rfl⟩ (fun s' e => by cases e; rw [d1]; exact d2) (fun v h1 tv e => by
      obtain ⟨y, rfl⟩ := tv
      exact wok y h1 e) (fun s' h1 e x => by cases e; exact wex _ _ h1 a1 a1' x) hX
    exact ⟨h3, _, S', R', k, v, t, X1, L1⟩
def ce_ad (s : String) : Int32 := if s = eIA then 1 else 2
def ce_NS (s : String) : Int32 := if s = eNS then 1 else 2
def ce_pt (s : String) : Int32 := if s = eNS then 1 else if s = eIO then 2 else 3
def ce_sw (s : String) : Int32 := if s = eNS then 1 else if s = eIA then 2 else 3
theorem cl_ex4 {s : String} (q : cl_ex (-4) s) : s = eIS := by
  rcases q with ⟨-, rfl⟩ | ⟨e, -⟩ | ⟨e, -⟩ | ⟨e, -⟩
  · rfl
  · exact absurd e (by decide)
  · exact absurd e (by decide)
  · exact absurd e (by decide)
theorem cl_ex3 {s : String} (q : cl_ex (-3) s) : s = eIA := by
  rcases q with ⟨e, -⟩ | ⟨-, rfl⟩ | ⟨e, -⟩ | ⟨e, -⟩
  · exact absurd e (by decide)
  · rfl
  · exact absurd e (by decide)
  · exact absurd e (by decide)
theorem cl_ex2 {s : String} (q : cl_ex (-2) s) : s = eIO := by
  rcases q with ⟨e, -⟩ | ⟨e, -⟩ | ⟨-, rfl⟩ | ⟨e, -⟩
  · exact absurd e (by decide)
  · exact absurd e (by decide)
  · rfl
  · exact absurd e (by decide)
theorem cl_ex1 {s : String} (q : cl_ex (-1) s) : s = eNS := by
  rcases q with ⟨e, -⟩ | ⟨e, -⟩ | ⟨e, -⟩ | ⟨-, rfl⟩
  · exact absurd e (by decide)
  · exact absurd e (by decide)
  · exact absurd e (by decide)
  · rfl
theorem no_add_e {M : mm_T} {c n e s w r : Int32} (h : no_add M c n e s w r) : r = -3 ∨ r = -4 := by
  rcases h with ⟨-, q⟩ | ⟨-, -, -, -, -, -, q⟩
  · exact Or.inl q
  · exact Or.inr q
theorem no_drop_e {M : mm_T} {v r : Int32} (h : no_drop M v r) : r = -1 ∨ r = -4 := by
  rcases h with ⟨-, q⟩ | ⟨k, -, -, q⟩
  · exact Or.inl q
  · exact Or.inr q
theorem no_take_e {M : mm_T} {v r : Int32} (h : no_take M v r) : r = -1 ∨ r = -4 := by
  rcases h with ⟨-, q⟩ | ⟨k, -, -, q⟩
  · exact Or.inl q
  · exact Or.inr q
theorem no_turn_e {M : mm_T} {v t r : Int32} (h : no_turn M v t r) : r = -1 ∨ r = -3 := by
  rcases h with ⟨-, q⟩ | ⟨k, -, -, q⟩
  · exact Or.inl q
  · exact Or.inr q
theorem no_put_e {M : mm_T} {v y x r : Int32} (h : no_put M v y x r) : r = -1 ∨ r = -2 ∨ r = -4 := by
  rcases h with ⟨-, q⟩ | ⟨k, -, ⟨-, q⟩ | ⟨i, j, -, -, -, -, -, q⟩⟩
  · exact Or.inl q
  · exact Or.inr (Or.inl q)
  · exact Or.inr (Or.inr q)
theorem no_swap_e {M : mm_T} {v w r : Int32} (h : no_swap M v w r) : r = -1 ∨ r = -3 ∨ r = -4 := by
  rcases h with ⟨-, q⟩ | ⟨k, -, -, q⟩ | ⟨k, l, -, -, -, -, q⟩
  · exact Or.inl q
  · exact Or.inr (Or.inl q)
  · exact Or.inr (Or.inr q)
theorem lc_276 (L : lw_I xs n c h C S th R b) (Sc : lc_S xs v5 x1 x2 x3 x4 x5) (hb : b + 13 < 2 ^ 30) : lc_P xs n c b v5 (jx_E 293 276 [.ref 199, .ref 200, .ref 711, .ref 719, .ref 720, .int v5, v6, v7, v8] [] h) := by
  obtain ⟨K, I, J, Q, O, H, N, -⟩ := id L
  obtain ⟨h3, C', S', R', k, v, t, X, L'⟩ := lw_ch (w := 255) (ws := [.ref 200, .int ((x1.toUInt32 % 65536).toInt32), .int x2, .int x3, .int x4, .int x5, .ref 719]) (bs := [.ref 711, .int ((x1.toUInt32 % 65536).toInt32), .int x2, .int x3, .int x4, .int x5]) (ces := ce_ad) (F := fun k v h3 => jx_E 293 2851 [.ref 199, .ref 200, .ref 711, .ref 719, .ref 720, .int v5, .int k, v, v8] [] h3) (N := fun h3 => some (.inl (some (.int 0)), h3)) (X := jx_E 293 276 [.ref 199, .ref 200, .ref 711, .ref 719, .ref 720, .int v5, v6, v7, v8] [] h) L (c_60 K I (by have := N.1; omega) ((x1.toUInt32 % 65536).toInt32) x2 x3 x4 x5) (fun h2 J2 => m_161 J2 (lw_pm L) Q (by have := N.1; omega) ((x1.toUInt32 % 65536).toInt32) x2 x3 x4 x5) (Fn_add _ _ _ _ _) (fun r M' q => ⟨mm_ok_add O q, by obtain ⟨c1, n1, e1, s1, w1, -, -, -, -, -, -, -, rfl⟩ := q; have := N.1; show C.1.2.1 + 1 ≤ b + 13; omega⟩) (fun e s q x => by
    rcases no_add_e q with rfl | rfl
    · have es := cl_ex3 x
      subst es
      exact ⟨by decide, by decide⟩
    · have es := cl_ex4 x
      subst es
      exact ⟨by decide, by decide⟩) (fun y h1 e => w_255_ok I e) (fun e s h1 q x y => by
    rcases no_add_e q with rfl | rfl
    · have es := cl_ex3 x
      subst es
      rw [show ce_ad eIA = 1 from by decide]; exact w_255_eIA I y
    · have es := cl_ex4 x
      subst es
      rw [show ce_ad eIS = 2 from by decide]; exact w_255_eIS I y) (fun k h2 v h3 t S' R' xw K2 J2 xm tv J3 => by
    obtain ⟨y, rfl⟩ := tv
    rw [b_293_276, Sc.1 h K, Sc.2.1 h K, Sc.2.2.1 h K, Sc.2.2.2.1 h K, Sc.2.2.2.2 h K, jx_cI_e xw, Sc.1 h2 K2, Sc.2.1 h2 K2, Sc.2.2.1 h2 K2, Sc.2.2.2.1 h2 K2, Sc.2.2.2.2 h2 K2, ro_is J2, jx_cI_e xm, ro_is J3, jx_cI_e (m_134 J3)] <;> rfl)
  exact ⟨h3, .int k, v, v8, C', S', t, R', X, L'⟩
theorem lc_382 (L : lw_I xs n c h C S th R b) (Sc : lc_S xs v5 x1 x2 x3 x4 x5) : lc_P xs n c b v5 (jx_E 293 382 [.ref 199, .ref 200, .ref 711, .ref 719, .ref 720, .int v5, v6, v7, v8] [] h) := by
  obtain ⟨K, I, J, Q, O, H, N, -⟩ := id L
  obtain ⟨h3, C', S', R', k, v, t, X, L'⟩ := lw_ch (w := 256) (ws := [.ref 200, .int x1, .ref 719]) (bs := [.ref 711, .int x1]) (ces := ce_NS) (F := fun k v h3 => jx_E 293 2851 [.ref 199, .ref 200, .ref 711, .ref 719, .ref 720, .int v5, .int k, v, v8] [] h3) (N := fun h3 => some (.inl (some (.int 0)), h3)) (X := jx_E 293 382 [.ref 199, .ref 200, .ref 711, .ref 719, .ref 720, .int v5, v6, v7, v8] [] h) L (c_61 K I x1) (fun h2 J2 => m_163 J2 (lw_pm L) Q O x1) (Fn_drop _) (fun r M' q => ⟨mm_ok_drop O q, by obtain ⟨k, -, -, -, rfl⟩ := q; have := N.1; show C.1.2.1 ≤ b + 13; omega⟩) (fun e s q x => by
    rcases no_drop_e q with rfl | rfl
    · have es := cl_ex1 x
      subst es
      exact ⟨by decide, by decide⟩
    · have es := cl_ex4 x
      subst es
      exact ⟨by decide, by decide⟩) (fun y h1 e => w_256_ok I e) (fun e s h1 q x y => by
    rcases no_drop_e q with rfl | rfl
    · have es := cl_ex1 x
      subst es
      rw [show ce_NS eNS = 1 from by decide]; exact w_256_eNS I y
    · have es := cl_ex4 x
      subst es
      rw [show ce_NS eIS = 2 from by decide]; exact w_256_eIS I y) (fun k h2 v h3 t S' R' xw K2 J2 xm tv J3 => by
    obtain ⟨y, rfl⟩ := tv
    rw [b_293_382, Sc.1 h K, jx_cI_e xw, Sc.1 h2 K2, ro_is J2, jx_cI_e xm, ro_is J3, jx_cI_e (m_134 J3)] <;> rfl)
  exact ⟨h3, .int k, v, v8, C', S', t, R', X, L'⟩
theorem lc_857 (L : lw_I xs n c h C S th R b) (Sc : lc_S xs v5 x1 x2 x3 x4 x5) : lc_P xs n c b v5 (jx_E 293 857 [.ref 199, .ref 200, .ref 711, .ref 719, .ref 720, .int v5, v6, v7, v8] [] h) := by
  obtain ⟨K, I, J, Q, O, H, N, -⟩ := id L
  obtain ⟨h3, C', S', R', k, v, t, X, L'⟩ := lw_ch (w := 263) (ws := [.ref 200, .int x1, .int x2, .int x3, .ref 719]) (bs := [.ref 711, .int x1, .int x2, .int x3]) (ces := ce_pt) (F := fun k v h3 => jx_E 293 2851 [.ref 199, .ref 200, .ref 711, .ref 719, .ref 720, .int v5, .int k, v, v8] [] h3) (N := fun h3 => some (.inl (some (.int 0)), h3)) (X := jx_E 293 857 [.ref 199, .ref 200, .ref 711, .ref 719, .ref 720, .int v5, v6, v7, v8] [] h) L (c_72 K I x1 x2 x3) (fun h2 J2 => m_176 J2 (lw_pm L) Q O x1 x2 x3) (Fn_put _ _ _) (fun r M' q => ⟨mm_ok_put O q, by obtain ⟨k, i, j, -, -, -, -, -, -, -, -, rfl⟩ := q; have := N.1; show C.1.2.1 ≤ b + 13; omega⟩) (fun e s q x => by
    rcases no_put_e q with rfl | rfl | rfl
    · have es := cl_ex1 x
      subst es
      exact ⟨by decide, by decide⟩
    · have es := cl_ex2 x
      subst es
      exact ⟨by decide, by decide⟩
    · have es := cl_ex4 x
      subst es
      exact ⟨by decide, by decide⟩) (fun y h1 e => w_263_ok I e) (fun e s h1 q x y => by
    rcases no_put_e q with rfl | rfl | rfl
    · have es := cl_ex1 x
      subst es
      rw [show ce_pt eNS = 1 from by decide]; exact w_263_eNS I y
    · have es := cl_ex2 x
      subst es
      rw [show ce_pt eIO = 2 from by decide]; exact w_263_eIO I y
    · have es := cl_ex4 x
      subst es
      rw [show ce_pt eIS = 3 from by decide]; exact w_263_eIS I y) (fun k h2 v h3 t S' R' xw K2 J2 xm tv J3 => by
    obtain ⟨y, rfl⟩ := tv
    rw [b_293_857, Sc.1 h K, Sc.2.1 h K, Sc.2.2.1 h K, jx_cI_e xw, Sc.1 h2 K2, Sc.2.1 h2 K2, Sc.2.2.1 h2 K2, ro_is J2, jx_cI_e xm, ro_is J3, jx_cI_e (m_134 J3)] <;> rfl)
  exact ⟨h3, .int k, v, v8, C', S', t, R', X, L'⟩
theorem lc_937 (L : lw_I xs n c h C S th R b) (Sc : lc_S xs v5 x1 x2 x3 x4 x5) : lc_P xs n c b v5 (jx_E 293 937 [.ref 199, .ref 200, .ref 711, .ref 719, .ref 720, .int v5, v6, v7, v8] [] h) := by
  obtain ⟨K, I, J, Q, O, H, N, -⟩ := id L
  obtain ⟨h3, C', S', R', k, v, t, X, L'⟩ := lw_ch (w := 264) (ws := [.ref 200, .int x1, .ref 719]) (bs := [.ref 711, .int x1]) (ces := ce_NS) (F := fun k v h3 => jx_E 293 2851 [.ref 199, .ref 200, .ref 711, .ref 719, .ref 720, .int v5, .int k, v, v8] [] h3) (N := fun h3 => some (.inl (some (.int 0)), h3)) (X := jx_E 293 937 [.ref 199, .ref 200, .ref 711, .ref 719, .ref 720, .int v5, v6, v7, v8] [] h) L (c_73 K I x1) (fun h2 J2 => m_178 J2 (lw_pm L) Q O x1) (Fn_take _) (fun r M' q => ⟨mm_ok_take O q, by obtain ⟨k, c, -, -, -, -, rfl⟩ := q; have := N.1; show C.1.2.1 ≤ b + 13; omega⟩) (fun e s q x => by
    rcases no_take_e q with rfl | rfl
    · have es := cl_ex1 x
      subst es
      exact ⟨by decide, by decide⟩
    · have es := cl_ex4 x
      subst es
      exact ⟨by decide, by decide⟩) (fun y h1 e => w_264_ok I e) (fun e s h1 q x y => by
    rcases no_take_e q with rfl | rfl
    · have es := cl_ex1 x
      subst es
      rw [show ce_NS eNS = 1 from by decide]; exact w_264_eNS I y
    · have es := cl_ex4 x
      subst es
      rw [show ce_NS eIS = 2 from by decide]; exact w_264_eIS I y) (fun k h2 v h3 t S' R' xw K2 J2 xm tv J3 => by
    obtain ⟨y, rfl⟩ := tv
    rw [b_293_937, Sc.1 h K, jx_cI_e xw, Sc.1 h2 K2, ro_is J2, jx_cI_e xm, ro_is J3, jx_cI_e (m_134 J3)] <;> rfl)
  exact ⟨h3, .int k, v, v8, C', S', t, R', X, L'⟩
theorem lc_993 (L : lw_I xs n c h C S th R b) (Sc : lc_S xs v5 x1 x2 x3 x4 x5) : lc_P xs n c b v5 (jx_E 293 993 [.ref 199, .ref 200, .ref 711, .ref 719, .ref 720, .int v5, v6, v7, v8] [] h) := by
  obtain ⟨K, I, J, Q, O, H, N, -⟩ := id L
  obtain ⟨h3, C', S', R', k, v, t, X, L'⟩ := lw_ch (w := 265) (ws := [.ref 200, .int x1, .int x2, .ref 719]) (bs := [.ref 711, .int x1, .int x2]) (ces := ce_NS) (F := fun k v h3 => jx_E 293 2851 [.ref 199, .ref 200, .ref 711, .ref 719, .ref 720, .int v5, .int k, v, v8] [] h3) (N := fun h3 => some (.inl (some (.int 0)), h3)) (X := jx_E 293 993 [.ref 199, .ref 200, .ref 711, .ref 719, .ref 720, .int v5, v6, v7, v8] [] h) L (c_74 K I x1 x2) (fun h2 J2 => m_180 J2 (lw_pm L) Q O x1 x2) (Fn_turn _ _) (fun r M' q => ⟨mm_ok_turn O q, by obtain ⟨k, t, -, -, -, -, rfl⟩ := q; have := N.1; show C.1.2.1 ≤ b + 13; omega⟩) (fun e s q x => by
    rcases no_turn_e q with rfl | rfl
    · have es := cl_ex1 x
      subst es
      exact ⟨by decide, by decide⟩
    · have es := cl_ex3 x
      subst es
      exact ⟨by decide, by decide⟩) (fun y h1 e => w_265_ok I e) (fun e s h1 q x y => by
    rcases no_turn_e q with rfl | rfl
    · have es := cl_ex1 x
      subst es
      rw [show ce_NS eNS = 1 from by decide]; exact w_265_eNS I y
    · have es := cl_ex3 x
      subst es
      rw [show ce_NS eIA = 2 from by decide]; exact w_265_eIA I y) (fun k h2 v h3 t S' R' xw K2 J2 xm tv J3 => by
    obtain ⟨y, rfl⟩ := tv
    rw [b_293_993, Sc.1 h K, Sc.2.1 h K, jx_cI_e xw, Sc.1 h2 K2, Sc.2.1 h2 K2, ro_is J2, jx_cI_e xm, ro_is J3, jx_cI_e (m_134 J3)] <;> rfl)
  exact ⟨h3, .int k, v, v8, C', S', t, R', X, L'⟩
theorem lc_1061 (L : lw_I xs n c h C S th R b) (Sc : lc_S xs v5 x1 x2 x3 x4 x5) : lc_P xs n c b v5 (jx_E 293 1061 [.ref 199, .ref 200, .ref 711, .ref 719, .ref 720, .int v5, v6, v7, v8] [] h) := by
  obtain ⟨K, I, J, Q, O, H, N, -⟩ := id L
  obtain ⟨h3, C', S', R', k, v, t, X, L'⟩ := lw_ch (w := 266) (ws := [.ref 200, .int x1, .int x2, .ref 719]) (bs := [.ref 711, .int x1, .int x2]) (ces := ce_sw) (F := fun k v h3 => jx_E 293 2851 [.ref 199, .ref 200, .ref 711, .ref 719, .ref 720, .int v5, .int k, v, v8] [] h3) (N := fun h3 => some (.inl (some (.int 0)), h3)) (X := jx_E 293 1061 [.ref 199, .ref 200, .ref 711, .ref 719, .ref 720, .int v5, v6, v7, v8] [] h) L (c_75 K I x1 x2) (fun h2 J2 => m_182 J2 (lw_pm L) Q O x1 x2) (Fn_swap _ _) (fun r M' q => ⟨mm_ok_swap O q, by obtain ⟨k, l, c, d, -, -, -, -, -, -, -, -, rfl⟩ := q; have := N.1; show C.1.2.1 ≤ b + 13; omega⟩) (fun e s q x => by
    rcases no_swap_e q with rfl | rfl | rfl
    · have es := cl_ex1 x
      subst es
      exact ⟨by decide, by decide⟩
    · have es := cl_ex3 x
      subst es
      exact ⟨by decide, by decide⟩
    · have es := cl_ex4 x
      subst es
      exact ⟨by decide, by decide⟩) (fun y h1 e => w_266_ok I e) (fun e s h1 q x y => by
    rcases no_swap_e q with rfl | rfl | rfl
    · have es := cl_ex1 x
      subst es
      rw [show ce_sw eNS = 1 from by decide]; exact w_266_eNS I y
    · have es := cl_ex3 x
      subst es
      rw [show ce_sw eIA = 2 from by decide]; exact w_266_eIA I y
    · have es := cl_ex4 x
      subst es
      rw [show ce_sw eIS = 3 from by decide]; exact w_266_eIS I y) (fun k h2 v h3 t S' R' xw K2 J2 xm tv J3 => by
    obtain ⟨y, rfl⟩ := tv
    rw [b_293_1061, Sc.1 h K, Sc.2.1 h K, jx_cI_e xw, Sc.1 h2 K2, Sc.2.1 h2 K2, ro_is J2, jx_cI_e xm, ro_is J3, jx_cI_e (m_134 J3)] <;> rfl)
  exact ⟨h3, .int k, v, v8, C', S', t, R', X, L'⟩
theorem lc_1129 (L : lw_I xs n c h C S th R b) (Sc : lc_S xs v5 x1 x2 x3 x4 x5) : lc_P xs n c b v5 (jx_E 293 1129 [.ref 199, .ref 200, .ref 711, .ref 719, .ref 720, .int v5, v6, v7, v8] [] h) := by
  obtain ⟨K, I, J, Q, O, H, N, -⟩ := id L
  have hX : ∀ k h2 v h3 t S' R', jx_A 267 [.ref 200, .int x1, .int x2, .ref 719] h = some (.inl (some (.int k)), h2) → mz_K xs h2 → ro_I h2 711 S th R → jx_A 191 [.ref 711, .int x1, .int x2] h2 = some (.inl (some v), h3) → ty_I v → ro_I h3 711 S' t R' → jx_E 293 1129 [.ref 199, .ref 200, .ref 711, .ref 719, .ref 720, .int v5, v6, v7, v8] [] h = if t = k then (if k = 0 then (jx_lL h3 719 102 0 (fun x => if (lg_cmp x (cv_I v)) = 0 then (jx_E 293 2851 [.ref 199, .ref 200, .ref 711, .ref 719, .ref 720, .int v5, .int k, v, v8] [] h3) else (some (.inl (some (.int 0)), h3)))) else (jx_E 293 2851 [.ref 199, .ref 200, .ref 711, .ref 719, .ref 720, .int v5, .int k, v, v8] [] h3)) else (some (.inl (some (.int 0)), h3)) := by
    intro k h2 v h3 t S' R' xw K2 J2 xm tv J3
    obtain ⟨y, rfl⟩ := tv
    rw [b_293_1129, Sc.1 h K, Sc.2.1 h K, jx_cI_e xw, Sc.1 h2 K2, Sc.2.1 h2 K2, ro_is J2, jx_cI_e xm, ro_is J3, jx_cI_e (m_134 J3)] <;> rfl
  rcases c_76 K I x1 x2 with ⟨r, M', h1, a1, a2, a3, a4⟩ | ⟨s, h1, a1, a2, a3, a4⟩
  · have nx : M'.2.1 ≤ b + 13 := by obtain ⟨c1, k1, -, -, -, -, rfl⟩ := a1; have := N.1; show C.1.2.1 ≤ b + 13; omega
    have om : mm_ok M' := by obtain ⟨c1, k1, -, -, -, -, rfl⟩ := a1; exact mm_ok_pg O
    obtain ⟨h3, S', R', k, v, t, X, L'⟩ := lw_ex (o := .inl (.int r)) (ce := ce_gs) (dv := .int 0) (C' := cl_push (cl_M C M') C.1) (mm := 191) (bs := [.ref 711, .int x1, .int x2]) (w := 267) (ws := [.ref 200, .int x1, .int x2, .ref 719]) (cv := cv_I) (ty := ty_I) (F := fun k v h3 => jx_E 293 2851 [.ref 199, .ref 200, .ref 711, .ref 719, .ref 720, .int v5, .int k, v, v8] [] h3) (N := fun h3 => some (.inl (some (.int 0)), h3)) (X := jx_E 293 1129 [.ref 199, .ref 200, .ref 711, .ref 719, .ref 720, .int v5, v6, v7, v8] [] h) L ⟨h1, a2, a3, a4⟩ (fun h2 J2 => by
      rcases m_191 J2 (lw_pm L) Q O x1 x2 with ⟨r', M'', h3, S', b1, b2, b3, b4, b5⟩ | ⟨e, h3, b1, -⟩
      · obtain ⟨e1, e2⟩ := ok_pg_u (lw_n L) a1 b1
        subst e1; subst e2
        exact ⟨S', _, ⟨h3, b5, b2, b3⟩, b4, rl_done H Q O _⟩
      · exfalso
        rcases b1 with ⟨-, b1⟩ | ⟨-, b1⟩ | ⟨-, b1⟩ <;> exact ok_pg_x (lw_n L) a1 b1) om (rl_N_push N (Nat.le_add_right b 13) nx) (fun v e => by cases e; exact ⟨r, rfl⟩) ⟨_, rfl⟩ (fun s e => by cases e) (fun v h1 tv e => by
      obtain ⟨y, rfl⟩ := tv
      exact w_267_ok I e) (fun s h1 e _ => by cases e) hX
    exact ⟨h3, .int k, v, v8, _, S', t, R', X, L'⟩
  · have es : s = eIO ∨ s = eUO ∨ s = eNS := by
      rcases a1 with ⟨-, q⟩ | ⟨c1, -, ⟨-, q⟩ | ⟨-, -, q⟩⟩
      · exact Or.inl q
      · exact Or.inr (Or.inl q)
      · exact Or.inr (Or.inr q)
    obtain ⟨h3, S', R', k, v, t, X, L'⟩ := lw_ex (o := .inr s) (ce := ce_gs) (dv := .int 0) (C' := C) (mm := 191) (bs := [.ref 711, .int x1, .int x2]) (w := 267) (ws := [.ref 200, .int x1, .int x2, .ref 719]) (cv := cv_I) (ty := ty_I) (F := fun k v h3 => jx_E 293 2851 [.ref 199, .ref 200, .ref 711, .ref 719, .ref 720, .int v5, .int k, v, v8] [] h3) (N := fun h3 => some (.inl (some (.int 0)), h3)) (X := jx_E 293 1129 [.ref 199, .ref 200, .ref 711, .ref 719, .ref 720, .int v5, v6, v7, v8] [] h) L ⟨h1, a2, a3, a4⟩ (fun h2 J2 => by
      rcases m_191 J2 (lw_pm L) Q O x1 x2 with ⟨r', M'', h3, S', b1, b2, b3, b4, b5⟩ | ⟨e, h3, b1, b2, b3, b4⟩
      · exact (ok_pg_x (lw_n L) b1 a1).elim
      · refine ⟨S, ro_B R S, ⟨h3, b4, b2, ?_⟩, Q, rl_B H S⟩
        rcases b1 with ⟨rfl, b1⟩ | ⟨rfl, b1⟩ | ⟨rfl, b1⟩
        · rw [no_pg_u a1 b1, show ce_gs eIO = 1 from by decide]; exact b3
        · rw [no_pg_u a1 b1, show ce_gs eUO = 2 from by decide]; exact b3
        · rw [no_pg_u a1 b1, show ce_gs eNS = 3 from by decide]; exact b3) O (rl_N_w N (Nat.le_add_right b 13)) (fun v e => by cases e) ⟨_, rfl⟩ (fun s' e => by
      cases e
      rcases es with rfl | rfl | rfl <;> decide) (fun v h1 tv e => by
      obtain ⟨y, rfl⟩ := tv
      exact w_267_ok I e) (fun s' h1 e x => by
      cases e
      rcases es with rfl | rfl | rfl
      · rw [show ce_gs eIO = 1 from by decide]; exact w_267_eIO I x
      · rw [show ce_gs eUO = 2 from by decide]; exact w_267_eUO I x
      · rw [show ce_gs eNS = 3 from by decide]; exact w_267_eNS I x) hX
    exact ⟨h3, .int k, v, v8, _, S', t, R', X, L'⟩
end LW
end JX
