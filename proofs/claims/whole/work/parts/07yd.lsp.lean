/-! The law's other calls. -/
section JX
section LW
variable {xs : List Int32} {n c b : Nat} {h : jx_H} {C : cl_T} {S : Nat → Nat} {th : Int32} {R : ro_R} {v5 x1 x2 x3 x4 x5 : Int32} {v6 v7 v8 : Value}
theorem cl_out (I : cl_I h C) : C.2.2.2.2.1.1 ≤ 8 ∧ ∀ j, j < C.2.2.2.2.1.1 → C.2.2.2.2.1.2 j < 65536 := by
  obtain ⟨nx, -, -, -, -, -, -, -, -, -, oa, -, h2, h3, h4⟩ := I
  exact ⟨h4, fun j hj => by rw [← h2 j hj]; exact h3 j⟩
theorem rl_O {O f : Nat → Nat} {k : Nat} (H : rl_R R C) (hk : k ≤ 8) (e : ∀ j, j < k → O j = f j ∧ O j < 65536) : rl_R (ro_O R O k) (cl_O C (k, f)) := by
  obtain ⟨a1, a2, a3, a4, a5, a6⟩ := H
  exact ⟨a1, a2, ⟨rfl, hk, e⟩, a4, a5, a6⟩
theorem rl_Y {O f : Nat → Nat} {k : Nat} (H : rl_R R C) (hk : k ≤ 60) (e : ∀ j, j < k → O j = f j ∧ O j < 65536) : rl_R (ro_Y R O k) (cl_X C (k, f)) := by
  obtain ⟨a1, a2, a3, a4, a5, a6⟩ := H
  exact ⟨a1, a2, a3, ⟨rfl, hk, e⟩, a5, a6⟩
theorem rl_N_O {o : Nat × (Nat → Nat)} (N : rl_N C b) : rl_N (cl_O C o) b := N
theorem rl_N_X {o : Nat × (Nat → Nat)} (N : rl_N C b) : rl_N (cl_X C o) b := N
theorem lc_2379 (L : lw_I xs n c h C S th R b) (Sc : lc_S xs v5 x1 x2 x3 x4 x5) : lc_P xs n c b v5 (jx_E 293 2379 [.ref 199, .ref 200, .ref 711, .ref 719, .ref 720, .int v5, v6, v7, v8] [] h) := by
  obtain ⟨K, I, J, Q, O, H, N, -⟩ := id L
  have hX : ∀ k h2 v h3 t S' R', jx_A 284 [.ref 200, .int x1, .ref 719] h = some (.inl (some (.int k)), h2) → mz_K xs h2 → ro_I h2 711 S th R → jx_A 223 [.ref 711, .int x1] h2 = some (.inl (some v), h3) → ty_I v → ro_I h3 711 S' t R' → jx_E 293 2379 [.ref 199, .ref 200, .ref 711, .ref 719, .ref 720, .int v5, v6, v7, v8] [] h = if t = k then (if k = 0 then (jx_lL h3 719 102 0 (fun x => if (lg_cmp x (cv_I v)) = 0 then (jx_E 293 2851 [.ref 199, .ref 200, .ref 711, .ref 719, .ref 720, .int v5, .int k, v, v8] [] h3) else (some (.inl (some (.int 0)), h3)))) else (jx_E 293 2851 [.ref 199, .ref 200, .ref 711, .ref 719, .ref 720, .int v5, .int k, v, v8] [] h3)) else (some (.inl (some (.int 0)), h3)) := by
    intro k h2 v h3 t S' R' xw K2 J2 xm tv J3
    obtain ⟨y, rfl⟩ := tv
    rw [b_293_2379, Sc.1 h K, jx_cI_e xw, Sc.1 h2 K2, ro_is J2, jx_cI_e xm, ro_is J3, jx_cI_e (m_134 J3)] <;> rfl
  rcases c_103 K I x1 with ⟨i, h1, hi, ei, a2, a3, a4⟩ | ⟨ne, a2⟩
  · obtain ⟨l8, lo⟩ := cl_out a3
    obtain ⟨h3, S', R', k, v, t, X, L'⟩ := lw_ex (mm := 223) (bs := [.ref 711, .int x1]) (w := 284) (ws := [.ref 200, .int x1, .ref 719]) (cv := cv_I) (ty := ty_I) (F := (fun k v h3 => jx_E 293 2851 [.ref 199, .ref 200, .ref 711, .ref 719, .ref 720, .int v5, .int k, v, v8] [] h3)) (N := (fun h3 => some (.inl (some (.int 0)), h3))) (X := jx_E 293 2379 [.ref 199, .ref 200, .ref 711, .ref 719, .ref 720, .int v5, v6, v7, v8] [] h) (o := .inl (.int 8)) (ce := ce_1) (dv := .int 0) (C' := cl_O C (8, fun j => mm_sg C.1 (8 * i + j))) L ⟨h1, a2, a3, a4⟩ (fun h2 J2 => by
      rcases m_223 J2 Q x1 with ⟨r, h3, O', hr, er, b2, b3, b4, b5⟩ | ⟨ne, -⟩
      · have e := nI_in_u (by decide) hi hr (ei.symm.trans er)
        subst e
        exact ⟨S, ro_O R O' 8, ⟨h3, b5, b2, b3⟩, Q, rl_O H (Nat.le_refl _) (fun j hj => ⟨b4 j hj, by rw [b4 j hj]; exact lo j hj⟩)⟩
      · exact absurd ei (ne i hi)) O (rl_N_O (rl_N_w N (Nat.le_add_right b 13))) (fun v e => by cases e; exact ⟨_, rfl⟩) ⟨_, rfl⟩ (fun s e => by cases e) (fun v h1 tv e => by
      obtain ⟨y, rfl⟩ := tv
      exact w_284_ok I e) (fun s h1 e _ => by cases e) hX
    exact ⟨h3, .int k, v, v8, _, S', t, R', X, L'⟩
  · obtain ⟨h3, S', R', k, v, t, X, L'⟩ := lw_ex (mm := 223) (bs := [.ref 711, .int x1]) (w := 284) (ws := [.ref 200, .int x1, .ref 719]) (cv := cv_I) (ty := ty_I) (F := (fun k v h3 => jx_E 293 2851 [.ref 199, .ref 200, .ref 711, .ref 719, .ref 720, .int v5, .int k, v, v8] [] h3)) (N := (fun h3 => some (.inl (some (.int 0)), h3))) (X := jx_E 293 2379 [.ref 199, .ref 200, .ref 711, .ref 719, .ref 720, .int v5, v6, v7, v8] [] h) (o := .inr eIO) (ce := ce_1) (dv := .int 0) (C' := C) L ⟨h, a2, I, mz_eq_rf⟩ (fun h2 J2 => by
      rcases m_223 J2 Q x1 with ⟨r, h3, O', hr, er, -⟩ | ⟨-, h3, b2, b3, b4⟩
      · exact absurd er (ne r hr)
      · exact ⟨S, R, ⟨h3, b4, b2, b3⟩, Q, H⟩) O (rl_N_w N (Nat.le_add_right b 13)) (fun v e => by cases e) ⟨_, rfl⟩ (fun s e => (by decide : (1 : Int32) ≠ 0)) (fun v h1 tv e => by
      obtain ⟨y, rfl⟩ := tv
      exact w_284_ok I e) (fun s h1 e x => by cases e; exact w_284_eIO I x) hX
    exact ⟨h3, .int k, v, v8, _, S', t, R', X, L'⟩
theorem lc_2435 (L : lw_I xs n c h C S th R b) (Sc : lc_S xs v5 x1 x2 x3 x4 x5) : lc_P xs n c b v5 (jx_E 293 2435 [.ref 199, .ref 200, .ref 711, .ref 719, .ref 720, .int v5, v6, v7, v8] [] h) := by
  obtain ⟨K, I, J, Q, O, H, N, -⟩ := id L
  have hX : ∀ k h2 v h3 t S' R', jx_A 285 [.ref 200, .int x1, .ref 719] h = some (.inl (some (.int k)), h2) → mz_K xs h2 → ro_I h2 711 S th R → jx_A 224 [.ref 711, .int x1] h2 = some (.inl (some v), h3) → ty_I v → ro_I h3 711 S' t R' → jx_E 293 2435 [.ref 199, .ref 200, .ref 711, .ref 719, .ref 720, .int v5, v6, v7, v8] [] h = if t = k then (if k = 0 then (jx_lL h3 719 102 0 (fun x => if (lg_cmp x (cv_I v)) = 0 then (jx_E 293 2851 [.ref 199, .ref 200, .ref 711, .ref 719, .ref 720, .int v5, .int k, v, v8] [] h3) else (some (.inl (some (.int 0)), h3)))) else (jx_E 293 2851 [.ref 199, .ref 200, .ref 711, .ref 719, .ref 720, .int v5, .int k, v, v8] [] h3)) else (some (.inl (some (.int 0)), h3)) := by
    intro k h2 v h3 t S' R' xw K2 J2 xm tv J3
    obtain ⟨y, rfl⟩ := tv
    rw [b_293_2435, Sc.1 h K, jx_cI_e xw, Sc.1 h2 K2, ro_is J2, jx_cI_e xm, ro_is J3, jx_cI_e (m_134 J3)] <;> rfl
  rcases c_104 K I x1 with ⟨k, h1, fk, a2, a3, a4⟩ | ⟨ne, a2⟩
  · obtain ⟨l8, lo⟩ := cl_out a3
    obtain ⟨h3, S', R', k, v, t, X, L'⟩ := lw_ex (mm := 224) (bs := [.ref 711, .int x1]) (w := 285) (ws := [.ref 200, .int x1, .ref 719]) (cv := cv_I) (ty := ty_I) (F := (fun k v h3 => jx_E 293 2851 [.ref 199, .ref 200, .ref 711, .ref 719, .ref 720, .int v5, .int k, v, v8] [] h3)) (N := (fun h3 => some (.inl (some (.int 0)), h3))) (X := jx_E 293 2435 [.ref 199, .ref 200, .ref 711, .ref 719, .ref 720, .int v5, v6, v7, v8] [] h) (o := .inl (.int (nI (mm_of (C.1.2.2.1 k)).1))) (ce := ce_1) (dv := .int 0) (C' := cl_O C (mm_of (C.1.2.2.1 k))) L ⟨h1, a2, a3, a4⟩ (fun h2 J2 => by
      rcases m_224 J2 Q O x1 with ⟨k', h3, O', fk', b2, b3, b4, b5⟩ | ⟨ne, -⟩
      · have e := mm_fd_s fk fk'
        subst e
        exact ⟨S, ro_O R O' (mm_of (C.1.2.2.1 k)).1, ⟨h3, b5, b2, b3⟩, Q, rl_O H l8 (fun j hj => ⟨b4 j hj, by rw [b4 j hj]; exact lo j hj⟩)⟩
      · exact (mm_fd_x fk ne).elim) O (rl_N_O (rl_N_w N (Nat.le_add_right b 13))) (fun v e => by cases e; exact ⟨_, rfl⟩) ⟨_, rfl⟩ (fun s e => by cases e) (fun v h1 tv e => by
      obtain ⟨y, rfl⟩ := tv
      exact w_285_ok I e) (fun s h1 e _ => by cases e) hX
    exact ⟨h3, .int k, v, v8, _, S', t, R', X, L'⟩
  · obtain ⟨h3, S', R', k, v, t, X, L'⟩ := lw_ex (mm := 224) (bs := [.ref 711, .int x1]) (w := 285) (ws := [.ref 200, .int x1, .ref 719]) (cv := cv_I) (ty := ty_I) (F := (fun k v h3 => jx_E 293 2851 [.ref 199, .ref 200, .ref 711, .ref 719, .ref 720, .int v5, .int k, v, v8] [] h3)) (N := (fun h3 => some (.inl (some (.int 0)), h3))) (X := jx_E 293 2435 [.ref 199, .ref 200, .ref 711, .ref 719, .ref 720, .int v5, v6, v7, v8] [] h) (o := .inr eNS) (ce := ce_1) (dv := .int 0) (C' := C) L ⟨h, a2, I, mz_eq_rf⟩ (fun h2 J2 => by
      rcases m_224 J2 Q O x1 with ⟨k', h3, O', fk', -⟩ | ⟨-, h3, b2, b3, b4⟩
      · exact (mm_fd_x fk' ne).elim
      · exact ⟨S, R, ⟨h3, b4, b2, b3⟩, Q, H⟩) O (rl_N_w N (Nat.le_add_right b 13)) (fun v e => by cases e) ⟨_, rfl⟩ (fun s e => (by decide : (1 : Int32) ≠ 0)) (fun v h1 tv e => by
      obtain ⟨y, rfl⟩ := tv
      exact w_285_ok I e) (fun s h1 e x => by cases e; exact w_285_eNS I x) hX
    exact ⟨h3, .int k, v, v8, _, S', t, R', X, L'⟩
theorem lc_2491 (L : lw_I xs n c h C S th R b) (Sc : lc_S xs v5 x1 x2 x3 x4 x5) : lc_P xs n c b v5 (jx_E 293 2491 [.ref 199, .ref 200, .ref 711, .ref 719, .ref 720, .int v5, v6, v7, v8] [] h) := by
  obtain ⟨K, I, J, Q, O, H, N, -⟩ := id L
  have hX : ∀ k h2 v h3 t S' R', jx_A 286 [.ref 200, .int x1, .ref 719] h = some (.inl (some (.int k)), h2) → mz_K xs h2 → ro_I h2 711 S th R → jx_A 225 [.ref 711, .int x1] h2 = some (.inl (some v), h3) → ty_I v → ro_I h3 711 S' t R' → jx_E 293 2491 [.ref 199, .ref 200, .ref 711, .ref 719, .ref 720, .int v5, v6, v7, v8] [] h = if t = k then (if k = 0 then (jx_lL h3 719 102 0 (fun x => if (lg_cmp x (cv_I v)) = 0 then (jx_E 293 2851 [.ref 199, .ref 200, .ref 711, .ref 719, .ref 720, .int v5, .int k, v, v8] [] h3) else (some (.inl (some (.int 0)), h3)))) else (jx_E 293 2851 [.ref 199, .ref 200, .ref 711, .ref 719, .ref 720, .int v5, .int k, v, v8] [] h3)) else (some (.inl (some (.int 0)), h3)) := by
    intro k h2 v h3 t S' R' xw K2 J2 xm tv J3
    obtain ⟨y, rfl⟩ := tv
    rw [b_293_2491, Sc.1 h K, jx_cI_e xw, Sc.1 h2 K2, ro_is J2, jx_cI_e xm, ro_is J3, jx_cI_e (m_134 J3)] <;> rfl
  obtain ⟨o3a, o3b, o3c⟩ := H.2.2.1
  obtain ⟨o, h1, so, a2, a3, a4⟩ := c_105 I x1
  have sO : (∃ j, j < ro_ol R ∧ x1 = nI j ∧ o = .inl (.int (nI (R.2.2.2.1 j)))) ∨ ((∀ j, j < ro_ol R → x1 ≠ nI j) ∧ o = .inr eIO) := by
    rcases so with ⟨j, hj, e, eo⟩ | ⟨ne, eo⟩
    · rw [← o3a] at hj
      exact Or.inl ⟨j, hj, e, by rw [eo, (o3c j hj).1]⟩
    · rw [← o3a] at ne
      exact Or.inr ⟨ne, eo⟩
  obtain ⟨h3, S', R', k, v, t, X, L'⟩ := lw_ex (mm := 225) (bs := [.ref 711, .int x1]) (w := 286) (ws := [.ref 200, .int x1, .ref 719]) (cv := cv_I) (ty := ty_I) (F := (fun k v h3 => jx_E 293 2851 [.ref 199, .ref 200, .ref 711, .ref 719, .ref 720, .int v5, .int k, v, v8] [] h3)) (N := (fun h3 => some (.inl (some (.int 0)), h3))) (X := jx_E 293 2491 [.ref 199, .ref 200, .ref 711, .ref 719, .ref 720, .int v5, v6, v7, v8] [] h) (o := o) (ce := ce_1) (dv := .int 32) (C' := C) L ⟨h1, a2, a3, a4⟩ (fun h2 J2 => by
    rcases m_225 J2 o3b (fun j hj => (o3c j hj).2) x1 with ⟨j, hj, e, h3, b2, b3, b4⟩ | ⟨ne, h3, b2, b3, b4⟩
    · rcases sO with ⟨j', hj', e', rfl⟩ | ⟨ne, -⟩
      · have q := nI_in_u (N := 8) (by decide) (by omega) (by omega) (e'.symm.trans e)
        subst q
        exact ⟨S, R, ⟨h3, b4, b2, b3⟩, Q, H⟩
      · exact absurd e (ne j hj)
    · rcases sO with ⟨j', hj', e', -⟩ | ⟨-, rfl⟩
      · exact absurd e' (ne j' hj')
      · exact ⟨S, R, ⟨h3, b4, b2, b3⟩, Q, H⟩) O (rl_N_w N (Nat.le_add_right b 13)) (fun v e => by
    subst e
    rcases sO with ⟨j', hj', e', q⟩ | ⟨-, q⟩
    · cases q; exact ⟨_, rfl⟩
    · cases q) ⟨_, rfl⟩ (fun s e => (by decide : (1 : Int32) ≠ 0)) (fun v h1 tv e => by
      obtain ⟨y, rfl⟩ := tv
      exact w_286_ok I e) (fun s h1 e x => by
    subst e
    rcases sO with ⟨j', hj', e', q⟩ | ⟨-, q⟩
    · cases q
    · cases q; exact w_286_eIO I x) hX
  exact ⟨h3, .int k, v, v8, _, S', t, R', X, L'⟩
theorem u16_n (x : Int32) : ∃ v, v < 65536 ∧ (x.toUInt32 % 65536).toInt32 = nI v := by
  refine ⟨(x.toUInt32 % 65536).toNat, ?_, ?_⟩
  · rw [UInt32.toNat_mod]; exact Nat.mod_lt _ (by decide)
  · apply Int32.toBitVec_inj.mp
    show (x.toUInt32 % 65536).toBitVec = BitVec.ofNat 32 (x.toUInt32 % 65536).toBitVec.toNat
    rw [BitVec.ofNat_toNat, BitVec.setWidth_eq]
theorem lc_2547 (L : lw_I xs n c h C S th R b) (Sc : lc_S xs v5 x1 x2 x3 x4 x5) : lc_P xs n c b v5 (jx_E 293 2547 [.ref 199, .ref 200, .ref 711, .ref 719, .ref 720, .int v5, v6, v7, v8] [] h) := by
  obtain ⟨K, I, J, Q, O, H, N, -⟩ := id L
  have hX : ∀ k h2 v h3 t S' R', jx_A 287 [.ref 200, .int ((x1.toUInt32 % 65536).toInt32), .ref 719] h = some (.inl (some (.int k)), h2) → mz_K xs h2 → ro_I h2 711 S th R → jx_A 226 [.ref 711, .int ((x1.toUInt32 % 65536).toInt32)] h2 = some (.inl (some v), h3) → ty_I v → ro_I h3 711 S' t R' → jx_E 293 2547 [.ref 199, .ref 200, .ref 711, .ref 719, .ref 720, .int v5, v6, v7, v8] [] h = if t = k then (if k = 0 then (jx_lL h3 719 102 0 (fun x => if (lg_cmp x (cv_I v)) = 0 then (jx_E 293 2851 [.ref 199, .ref 200, .ref 711, .ref 719, .ref 720, .int v5, .int k, v, v8] [] h3) else (some (.inl (some (.int 0)), h3)))) else (jx_E 293 2851 [.ref 199, .ref 200, .ref 711, .ref 719, .ref 720, .int v5, .int k, v, v8] [] h3)) else (some (.inl (some (.int 0)), h3)) := by
    intro k h2 v h3 t S' R' xw K2 J2 xm tv J3
    obtain ⟨y, rfl⟩ := tv
    rw [b_293_2547, Sc.1 h K, jx_cI_e xw, Sc.1 h2 K2, ro_is J2, jx_cI_e xm, ro_is J3, jx_cI_e (m_134 J3)] <;> rfl
  obtain ⟨v, v1, ev⟩ := u16_n x1
  rw [ev] at hX
  obtain ⟨o4a, o4b, o4c⟩ := H.2.2.2.1
  rcases c_106 I v1 with ⟨e60, a2⟩ | ⟨l60, h1, a2, a3, a4⟩
  · obtain ⟨h3, S', R', k, v, t, X, L'⟩ := lw_ex (mm := 226) (bs := [.ref 711, .int (nI v)]) (w := 287) (ws := [.ref 200, .int (nI v), .ref 719]) (cv := cv_I) (ty := ty_I) (F := (fun k v h3 => jx_E 293 2851 [.ref 199, .ref 200, .ref 711, .ref 719, .ref 720, .int v5, .int k, v, v8] [] h3)) (N := (fun h3 => some (.inl (some (.int 0)), h3))) (X := jx_E 293 2547 [.ref 199, .ref 200, .ref 711, .ref 719, .ref 720, .int v5, v6, v7, v8] [] h) (o := .inr eIS) (ce := ce_1) (dv := .int 0) (C' := C) L ⟨h, a2, I, mz_eq_rf⟩ (fun h2 J2 => by
      rcases m_226 J2 o4b v1 with ⟨-, h3, b2, b3, b4⟩ | ⟨l, -⟩
      · exact ⟨S, R, ⟨h3, b4, b2, b3⟩, Q, H⟩
      · omega) O (rl_N_w N (Nat.le_add_right b 13)) (fun v e => by cases e) ⟨_, rfl⟩ (fun s e => (by decide : (1 : Int32) ≠ 0)) (fun v h1 tv e => by
      obtain ⟨y, rfl⟩ := tv
      exact w_287_ok I e) (fun s h1 e x => by cases e; exact w_287_eIS I x) hX
    exact ⟨h3, .int k, v, v8, _, S', t, R', X, L'⟩
  · obtain ⟨h3, S', R', k, v, t, X, L'⟩ := lw_ex (mm := 226) (bs := [.ref 711, .int (nI v)]) (w := 287) (ws := [.ref 200, .int (nI v), .ref 719]) (cv := cv_I) (ty := ty_I) (F := (fun k v h3 => jx_E 293 2851 [.ref 199, .ref 200, .ref 711, .ref 719, .ref 720, .int v5, .int k, v, v8] [] h3)) (N := (fun h3 => some (.inl (some (.int 0)), h3))) (X := jx_E 293 2547 [.ref 199, .ref 200, .ref 711, .ref 719, .ref 720, .int v5, v6, v7, v8] [] h) (o := .inl (.int (nI (C.2.2.2.2.2.1.1 + 1)))) (ce := ce_1) (dv := .int 0) (C' := cl_X C (C.2.2.2.2.2.1.1 + 1, mz_up C.2.2.2.2.2.1.2 C.2.2.2.2.2.1.1 v)) L ⟨h1, a2, a3, a4⟩ (fun h2 J2 => by
      rcases m_226 J2 o4b v1 with ⟨e, -⟩ | ⟨l, h3, b2, b3, b4⟩
      · omega
      · rw [o4a] at b2 b3
        exact ⟨S, ro_Y R (mz_up R.2.2.2.2.1 C.2.2.2.2.2.1.1 v) (C.2.2.2.2.2.1.1 + 1), ⟨h3, b4, b2, b3⟩, Q, rl_Y H (by omega) (fun j hj => by
          by_cases z : j = C.2.2.2.2.2.1.1
          · subst z; rw [mz_up_s, mz_up_s]; exact ⟨rfl, v1⟩
          · rw [mz_up_n z, mz_up_n z]; exact o4c j (by omega))⟩) O (rl_N_X (rl_N_w N (Nat.le_add_right b 13))) (fun v e => by cases e; exact ⟨_, rfl⟩) ⟨_, rfl⟩ (fun s e => by cases e) (fun v h1 tv e => by
      obtain ⟨y, rfl⟩ := tv
      exact w_287_ok I e) (fun s h1 e _ => by cases e) hX
    exact ⟨h3, .int k, v, v8, _, S', t, R', X, L'⟩
theorem lc_2649 (L : lw_I xs n c h C S th R b) : lc_P xs n c b v5 (jx_E 293 2649 [.ref 199, .ref 200, .ref 711, .ref 719, .ref 720, .int v5, v6, v7, v8] [] h) := by
  obtain ⟨K, I, J, Q, O, H, N, -⟩ := id L
  have hX : ∀ k h2 v h3 t S' R', jx_A 289 [.ref 200, .ref 719] h = some (.inl (some (.int k)), h2) → mz_K xs h2 → ro_I h2 711 S th R → jx_A 235 [.ref 711] h2 = some (.inl (some v), h3) → ty_I v → ro_I h3 711 S' t R' → jx_E 293 2649 [.ref 199, .ref 200, .ref 711, .ref 719, .ref 720, .int v5, v6, v7, v8] [] h = if t = k then (if k = 0 then (jx_lL h3 719 102 0 (fun x => if (lg_cmp x (cv_I v)) = 0 then (jx_E 293 2851 [.ref 199, .ref 200, .ref 711, .ref 719, .ref 720, .int v5, .int k, v, v8] [] h3) else (some (.inl (some (.int 0)), h3)))) else (jx_E 293 2851 [.ref 199, .ref 200, .ref 711, .ref 719, .ref 720, .int v5, .int k, v, v8] [] h3)) else (some (.inl (some (.int 0)), h3)) := by
    intro k h2 v h3 t S' R' xw K2 J2 xm tv J3
    obtain ⟨y, rfl⟩ := tv
    rw [b_293_2649, jx_cI_e xw, ro_is J2, jx_cI_e xm, ro_is J3, jx_cI_e (m_134 J3)] <;> rfl
  obtain ⟨ka, kb⟩ := H.2.2.2.2.1
  have x0 := c_108 I
  by_cases z : C.2.2.2.2.2.2.1 = -1
  · rw [if_pos z] at x0
    obtain ⟨h3, S', R', k, v, t, X, L'⟩ := lw_ex (mm := 235) (bs := [.ref 711]) (w := 289) (ws := [.ref 200, .ref 719]) (cv := cv_I) (ty := ty_I) (F := (fun k v h3 => jx_E 293 2851 [.ref 199, .ref 200, .ref 711, .ref 719, .ref 720, .int v5, .int k, v, v8] [] h3)) (N := (fun h3 => some (.inl (some (.int 0)), h3))) (X := jx_E 293 2649 [.ref 199, .ref 200, .ref 711, .ref 719, .ref 720, .int v5, v6, v7, v8] [] h) (o := .inr eNS) (ce := ce_1) (dv := .int 0) (C' := C) L ⟨h, x0, I, mz_eq_rf⟩ (fun h2 J2 => by
      obtain ⟨h3, t3, q⟩ := m_235 J2 kb
      rw [if_pos (ka.trans z)] at q
      exact ⟨S, R, ⟨h3, t3, q⟩, Q, H⟩) O (rl_N_w N (Nat.le_add_right b 13)) (fun v e => by cases e) ⟨_, rfl⟩ (fun s e => (by decide : (1 : Int32) ≠ 0)) (fun v h1 tv e => by
      obtain ⟨y, rfl⟩ := tv
      exact w_289_ok I e) (fun s h1 e x => by cases e; exact w_289_eNS I x) hX
    exact ⟨h3, .int k, v, v8, _, S', t, R', X, L'⟩
  · rw [if_neg z] at x0
    obtain ⟨h3, S', R', k, v, t, X, L'⟩ := lw_ex (mm := 235) (bs := [.ref 711]) (w := 289) (ws := [.ref 200, .ref 719]) (cv := cv_I) (ty := ty_I) (F := (fun k v h3 => jx_E 293 2851 [.ref 199, .ref 200, .ref 711, .ref 719, .ref 720, .int v5, .int k, v, v8] [] h3)) (N := (fun h3 => some (.inl (some (.int 0)), h3))) (X := jx_E 293 2649 [.ref 199, .ref 200, .ref 711, .ref 719, .ref 720, .int v5, v6, v7, v8] [] h) (o := .inl (.int C.2.2.2.2.2.2.1)) (ce := ce_1) (dv := .int 0) (C' := C) L ⟨h, x0, I, mz_eq_rf⟩ (fun h2 J2 => by
      obtain ⟨h3, t3, q⟩ := m_235 J2 kb
      rw [if_neg (fun e => z (ka.symm.trans e)), ka] at q
      exact ⟨S, R, ⟨h3, t3, q⟩, Q, H⟩) O (rl_N_w N (Nat.le_add_right b 13)) (fun v e => by cases e; exact ⟨_, rfl⟩) ⟨_, rfl⟩ (fun s e => by cases e) (fun v h1 tv e => by
      obtain ⟨y, rfl⟩ := tv
      exact w_289_ok I e) (fun s h1 e _ => by cases e) hX
    exact ⟨h3, .int k, v, v8, _, S', t, R', X, L'⟩
theorem lc_2693 (L : lw_I xs n c h C S th R b) : lc_P xs n c b v5 (jx_E 293 2693 [.ref 199, .ref 200, .ref 711, .ref 719, .ref 720, .int v5, v6, v7, v8] [] h) := by
  obtain ⟨K, I, J, Q, O, H, N, -⟩ := id L
  have hX : ∀ k h2 v h3 t S' R', jx_A 290 [.ref 200, .ref 719] h = some (.inl (some (.int k)), h2) → mz_K xs h2 → ro_I h2 711 S th R → jx_A 236 [.ref 711] h2 = some (.inl (some v), h3) → ty_I v → ro_I h3 711 S' t R' → jx_E 293 2693 [.ref 199, .ref 200, .ref 711, .ref 719, .ref 720, .int v5, v6, v7, v8] [] h = if t = k then (if k = 0 then (jx_lL h3 719 102 0 (fun x => if (lg_cmp x (cv_I v)) = 0 then (jx_E 293 2851 [.ref 199, .ref 200, .ref 711, .ref 719, .ref 720, .int v5, .int k, v, v8] [] h3) else (some (.inl (some (.int 0)), h3)))) else (jx_E 293 2851 [.ref 199, .ref 200, .ref 711, .ref 719, .ref 720, .int v5, .int k, v, v8] [] h3)) else (some (.inl (some (.int 0)), h3)) := by
    intro k h2 v h3 t S' R' xw K2 J2 xm tv J3
    obtain ⟨y, rfl⟩ := tv
    rw [b_293_2693, jx_cI_e xw, ro_is J2, jx_cI_e xm, ro_is J3, jx_cI_e (m_134 J3)] <;> rfl
  obtain ⟨ka, kb⟩ := H.2.2.2.2.2
  have x0 := c_109 I
  by_cases z : C.2.2.2.2.2.2.2 = -1
  · rw [if_pos z] at x0
    obtain ⟨h3, S', R', k, v, t, X, L'⟩ := lw_ex (mm := 236) (bs := [.ref 711]) (w := 290) (ws := [.ref 200, .ref 719]) (cv := cv_I) (ty := ty_I) (F := (fun k v h3 => jx_E 293 2851 [.ref 199, .ref 200, .ref 711, .ref 719, .ref 720, .int v5, .int k, v, v8] [] h3)) (N := (fun h3 => some (.inl (some (.int 0)), h3))) (X := jx_E 293 2693 [.ref 199, .ref 200, .ref 711, .ref 719, .ref 720, .int v5, v6, v7, v8] [] h) (o := .inr eNS) (ce := ce_1) (dv := .int 0) (C' := C) L ⟨h, x0, I, mz_eq_rf⟩ (fun h2 J2 => by
      obtain ⟨h3, t3, q⟩ := m_236 J2 kb
      rw [if_pos (ka.trans z)] at q
      exact ⟨S, R, ⟨h3, t3, q⟩, Q, H⟩) O (rl_N_w N (Nat.le_add_right b 13)) (fun v e => by cases e) ⟨_, rfl⟩ (fun s e => (by decide : (1 : Int32) ≠ 0)) (fun v h1 tv e => by
      obtain ⟨y, rfl⟩ := tv
      exact w_290_ok I e) (fun s h1 e x => by cases e; exact w_290_eNS I x) hX
    exact ⟨h3, .int k, v, v8, _, S', t, R', X, L'⟩
  · rw [if_neg z] at x0
    obtain ⟨h3, S', R', k, v, t, X, L'⟩ := lw_ex (mm := 236) (bs := [.ref 711]) (w := 290) (ws := [.ref 200, .ref 719]) (cv := cv_I) (ty := ty_I) (F := (fun k v h3 => jx_E 293 2851 [.ref 199, .ref 200, .ref 711, .ref 719, .ref 720, .int v5, .int k, v, v8] [] h3)) (N := (fun h3 => some (.inl (some (.int 0)), h3))) (X := jx_E 293 2693 [.ref 199, .ref 200, .ref 711, .ref 719, .ref 720, .int v5, v6, v7, v8] [] h) (o := .inl (.int C.2.2.2.2.2.2.2)) (ce := ce_1) (dv := .int 0) (C' := C) L ⟨h, x0, I, mz_eq_rf⟩ (fun h2 J2 => by
      obtain ⟨h3, t3, q⟩ := m_236 J2 kb
      rw [if_neg (fun e => z (ka.symm.trans e)), ka] at q
      exact ⟨S, R, ⟨h3, t3, q⟩, Q, H⟩) O (rl_N_w N (Nat.le_add_right b 13)) (fun v e => by cases e; exact ⟨_, rfl⟩) ⟨_, rfl⟩ (fun s e => by cases e) (fun v h1 tv e => by
      obtain ⟨y, rfl⟩ := tv
      exact w_290_ok I e) (fun s h1 e _ => by cases e) hX
    exact ⟨h3, .int k, v, v8, _, S', t, R', X, L'⟩
theorem lc_2737 (L : lw_I xs n c h C S th R b) : lc_P xs n c b v5 (jx_E 293 2737 [.ref 199, .ref 200, .ref 711, .ref 719, .ref 720, .int v5, v6, v7, v8] [] h) := by
  obtain ⟨K, I, J, Q, O, H, N, -⟩ := id L
  have hX : ∀ k h2 v h3 t S' R', jx_A 291 [.ref 200, .ref 719] h = some (.inl (some (.int k)), h2) → mz_K xs h2 → ro_I h2 711 S th R → jx_A 237 [.ref 711] h2 = some (.inl (some v), h3) → ty_I v → ro_I h3 711 S' t R' → jx_E 293 2737 [.ref 199, .ref 200, .ref 711, .ref 719, .ref 720, .int v5, v6, v7, v8] [] h = if t = k then (if k = 0 then (jx_lL h3 719 102 0 (fun x => if (lg_cmp x (cv_I v)) = 0 then (jx_E 293 2851 [.ref 199, .ref 200, .ref 711, .ref 719, .ref 720, .int v5, .int k, v, v8] [] h3) else (some (.inl (some (.int 0)), h3)))) else (jx_E 293 2851 [.ref 199, .ref 200, .ref 711, .ref 719, .ref 720, .int v5, .int k, v, v8] [] h3)) else (some (.inl (some (.int 0)), h3)) := by
    intro k h2 v h3 t S' R' xw K2 J2 xm tv J3
    obtain ⟨y, rfl⟩ := tv
    rw [b_293_2737, jx_cI_e xw, ro_is J2, jx_cI_e xm, ro_is J3, jx_cI_e (m_134 J3)] <;> rfl
  obtain ⟨p1, p2, p3⟩ := H.2.1
  rcases c_110 I with ⟨z, a2⟩ | ⟨z, h1, a2, a3, a4⟩
  · obtain ⟨h3, S', R', k, v, t, X, L'⟩ := lw_ex (mm := 237) (bs := [.ref 711]) (w := 291) (ws := [.ref 200, .ref 719]) (cv := cv_I) (ty := ty_I) (F := (fun k v h3 => jx_E 293 2851 [.ref 199, .ref 200, .ref 711, .ref 719, .ref 720, .int v5, .int k, v, v8] [] h3)) (N := (fun h3 => some (.inl (some (.int 0)), h3))) (X := jx_E 293 2737 [.ref 199, .ref 200, .ref 711, .ref 719, .ref 720, .int v5, v6, v7, v8] [] h) (o := .inr eIS) (ce := ce_1) (dv := .int 0) (C' := C) L ⟨h, a2, I, mz_eq_rf⟩ (fun h2 J2 => by
      rcases m_237 J2 (lw_pm L) with ⟨-, h3, b2, b3, b4⟩ | ⟨nz, -⟩
      · exact ⟨S, R, ⟨h3, b4, b2, b3⟩, Q, H⟩
      · exact absurd (p1.trans z) nz) O (rl_N_w N (Nat.le_add_right b 13)) (fun v e => by cases e) ⟨_, rfl⟩ (fun s e => (by decide : (1 : Int32) ≠ 0)) (fun v h1 tv e => by
      obtain ⟨y, rfl⟩ := tv
      exact w_291_ok I e) (fun s h1 e x => by cases e; exact w_291_eIS I x) hX
    exact ⟨h3, .int k, v, v8, _, S', t, R', X, L'⟩
  · have N' : rl_N (cl_pop C) (b + 13) := by
      refine ⟨Nat.le_trans (N.2.2 0 (by omega)) (Nat.le_add_right b 13), fun T e => Nat.le_trans (N.2.1 T e) (Nat.le_add_right b 13), fun j hj => ?_⟩
      have hj : j < C.2.2.1 - 1 := hj
      exact Nat.le_trans (N.2.2 (j + 1) (by omega)) (Nat.le_add_right b 13)
    obtain ⟨q1, q2⟩ := p3 0 (by omega)
    have H' : rl_R (ro_P R R.2.2.1 (C.2.2.1 - 1)) (cl_pop C) := by
      obtain ⟨g1, g2, g3⟩ := H
      refine ⟨g1, ⟨rfl, (show C.2.2.1 - 1 ≤ 8 by omega), fun j hj => ?_⟩, g3⟩
      have hj : j < C.2.2.1 - 1 := hj
      obtain ⟨r1, r2⟩ := p3 (j + 1) (by omega)
      refine ⟨ro_S_c (fun k hk => ?_) r1, r2⟩
      show R.2.2.1 (225 * (C.2.2.1 - 1 - 1 - j) + k) = R.2.2.1 (225 * (C.2.2.1 - 1 - (j + 1)) + k)
      rw [show C.2.2.1 - 1 - 1 - j = C.2.2.1 - 1 - (j + 1) by omega]
    obtain ⟨h3, S', R', k, v, t, X, L'⟩ := lw_ex (mm := 237) (bs := [.ref 711]) (w := 291) (ws := [.ref 200, .ref 719]) (cv := cv_I) (ty := ty_I) (F := (fun k v h3 => jx_E 293 2851 [.ref 199, .ref 200, .ref 711, .ref 719, .ref 720, .int v5, .int k, v, v8] [] h3)) (N := (fun h3 => some (.inl (some (.int 0)), h3))) (X := jx_E 293 2737 [.ref 199, .ref 200, .ref 711, .ref 719, .ref 720, .int v5, v6, v7, v8] [] h) (o := .inl (.int (nI (C.2.2.1 - 1)))) (ce := ce_1) (dv := .int 0) (C' := cl_pop C) L ⟨h1, a2, a3, a4⟩ (fun h2 J2 => by
      rcases m_237 J2 (lw_pm L) with ⟨e, -⟩ | ⟨nz, h3, b2, b3, b4⟩
      · exact absurd (p1.symm.trans e) z
      · rw [p1] at b2 b3
        refine ⟨_, ro_P R R.2.2.1 (C.2.2.1 - 1), ⟨h3, b4, b2, b3⟩, ro_S_c (fun k hk => ?_) q1, H'⟩
        rfl) q2 N' (fun v e => by cases e; exact ⟨_, rfl⟩) ⟨_, rfl⟩ (fun s e => by cases e) (fun v h1 tv e => by
      obtain ⟨y, rfl⟩ := tv
      exact w_291_ok I e) (fun s h1 e _ => by cases e) hX
    exact ⟨h3, .int k, v, v8, _, S', t, R', X, L'⟩
theorem lc_2807 (L : lw_I xs n c h C S th R b) : lc_P xs n c b v5 (jx_E 293 2807 [.ref 199, .ref 200, .ref 711, .ref 719, .ref 720, .int v5, v6, v7, v8] [] h) := by
  obtain ⟨K, I, J, Q, O, H, N, -⟩ := id L
  have hX : ∀ k h2 v h3 t S' R', jx_A 292 [.ref 200, .ref 719] h = some (.inl (some (.int k)), h2) → mz_K xs h2 → ro_I h2 711 S th R → jx_A 240 [.ref 711] h2 = some (.inl (some v), h3) → ty_I v → ro_I h3 711 S' t R' → jx_E 293 2807 [.ref 199, .ref 200, .ref 711, .ref 719, .ref 720, .int v5, v6, v7, v8] [] h = if t = k then (if k = 0 then (jx_lL h3 719 102 0 (fun x => if (lg_cmp x (cv_I v)) = 0 then (jx_E 293 2851 [.ref 199, .ref 200, .ref 711, .ref 719, .ref 720, .int v5, .int k, v, v8] [] h3) else (some (.inl (some (.int 0)), h3)))) else (jx_E 293 2851 [.ref 199, .ref 200, .ref 711, .ref 719, .ref 720, .int v5, .int k, v, v8] [] h3)) else (some (.inl (some (.int 0)), h3)) := by
    intro k h2 v h3 t S' R' xw K2 J2 xm tv J3
    obtain ⟨y, rfl⟩ := tv
    rw [b_293_2807, jx_cI_e xw, ro_is J2, jx_cI_e xm, ro_is J3, jx_cI_e (m_134 J3)] <;> rfl
  obtain ⟨s1, s2⟩ := H.1
  rcases c_113 I with ⟨z, a2⟩ | ⟨MS, z, h1, a2, a3, a4⟩
  · have sf : ro_sv R = false := by rw [s1, z]; rfl
    obtain ⟨h3, S', R', k, v, t, X, L'⟩ := lw_ex (mm := 240) (bs := [.ref 711]) (w := 292) (ws := [.ref 200, .ref 719]) (cv := cv_I) (ty := ty_I) (F := (fun k v h3 => jx_E 293 2851 [.ref 199, .ref 200, .ref 711, .ref 719, .ref 720, .int v5, .int k, v, v8] [] h3)) (N := (fun h3 => some (.inl (some (.int 0)), h3))) (X := jx_E 293 2807 [.ref 199, .ref 200, .ref 711, .ref 719, .ref 720, .int v5, v6, v7, v8] [] h) (o := .inr eIS) (ce := ce_1) (dv := .int 0) (C' := C) L ⟨h, a2, I, mz_eq_rf⟩ (fun h2 J2 => by
      rcases m_240 (MS := mm_0) J2 (fun e => by rw [sf] at e; cases e) with ⟨-, h3, b2, b3, b4⟩ | ⟨e, -⟩
      · exact ⟨S, R, ⟨h3, b4, b2, b3⟩, Q, H⟩
      · rw [sf] at e; cases e) O (rl_N_w N (Nat.le_add_right b 13)) (fun v e => by cases e) ⟨_, rfl⟩ (fun s e => (by decide : (1 : Int32) ≠ 0)) (fun v h1 tv e => by
      obtain ⟨y, rfl⟩ := tv
      exact w_292_ok I e) (fun s h1 e x => by cases e; exact w_292_eIS I x) hX
    exact ⟨h3, .int k, v, v8, _, S', t, R', X, L'⟩
  · have st : ro_sv R = true := by rw [s1, z]; rfl
    obtain ⟨q1, q2⟩ := s2 MS z
    have N' : rl_N (cl_rest C MS) (b + 13) := ⟨Nat.le_trans (N.2.1 MS z) (Nat.le_add_right b 13), fun T e => Nat.le_trans (N.2.1 T e) (Nat.le_add_right b 13), fun j hj => absurd hj (Nat.not_lt_zero _)⟩
    have H' : rl_R (ro_P R R.2.2.1 0) (cl_rest C MS) := by
      obtain ⟨g1, g2, g3⟩ := H
      exact ⟨g1, ⟨rfl, (show 0 ≤ 8 by decide), fun j hj => absurd hj (Nat.not_lt_zero _)⟩, g3⟩
    obtain ⟨h3, S', R', k, v, t, X, L'⟩ := lw_ex (mm := 240) (bs := [.ref 711]) (w := 292) (ws := [.ref 200, .ref 719]) (cv := cv_I) (ty := ty_I) (F := (fun k v h3 => jx_E 293 2851 [.ref 199, .ref 200, .ref 711, .ref 719, .ref 720, .int v5, .int k, v, v8] [] h3)) (N := (fun h3 => some (.inl (some (.int 0)), h3))) (X := jx_E 293 2807 [.ref 199, .ref 200, .ref 711, .ref 719, .ref 720, .int v5, v6, v7, v8] [] h) (o := .inl (.int (nI MS.1))) (ce := ce_1) (dv := .int 0) (C' := cl_rest C MS) L ⟨h1, a2, a3, a4⟩ (fun h2 J2 => by
      rcases m_240 (MS := MS) J2 (fun _ => q1) with ⟨e, -⟩ | ⟨-, h3, b2, b3, b4⟩
      · rw [st] at e; cases e
      · exact ⟨R.2.1, ro_P R R.2.2.1 0, ⟨h3, b4, b2, b3⟩, q1, H'⟩) q2 N' (fun v e => by cases e; exact ⟨_, rfl⟩) ⟨_, rfl⟩ (fun s e => by cases e) (fun v h1 tv e => by
      obtain ⟨y, rfl⟩ := tv
      exact w_292_ok I e) (fun s h1 e _ => by cases e) hX
    exact ⟨h3, .int k, v, v8, _, S', t, R', X, L'⟩
def ce_xe (s : String) : Int32 := if s = eIA then 1 else 2
theorem pz_A_len {cc : Nat → Nat} {LL : Nat} : ∀ (f po : Nat) {l : List (Nat × List Nat)}, pz_A cc LL f po = .inr l → l.length ≤ f
  | 0, po, l, e => by cases (show (Sum.inl po : Nat ⊕ List (Nat × List Nat)) = .inr l from e)
  | f + 1, po, l, e => by
    rw [pz_A_s] at e
    split at e
    · cases e
    · split at e
      · cases e; simp
      · split at e
        · split at e
          · cases e
          · rename_i l' e'
            cases e
            have := pz_A_len f _ e'
            simp; omega
        · cases e
theorem rl_e1 {e cn : Nat} {cm : Nat → Int32} (H : rl_R R C) (he : e ≤ 60) : rl_R (ro_e1 R e cm cn) (cl_kp (cl_N C) (nI e)) := by
  obtain ⟨a1, a2, a3, a4, a5, a6⟩ := H
  exact ⟨a1, a2, a3, ⟨rfl, (show 0 ≤ 60 by decide), fun j hj => absurd hj (Nat.not_lt_zero _)⟩, ⟨rfl, Or.inr (nI_pos (show e < 2 ^ 31 by omega))⟩, a6⟩
theorem rl_e0 {cn : Nat} {cm : Nat → Int32} (H : rl_R R C) : rl_R (ro_e0 R S cm cn) (cl_N C) := by
  obtain ⟨a1, a2, a3, a4, a5, a6⟩ := H
  exact ⟨a1, a2, a3, ⟨rfl, (show 0 ≤ 60 by decide), fun j hj => absurd hj (Nat.not_lt_zero _)⟩, a5, a6⟩
theorem rl_kc {j : Nat} (H : rl_R R C) (hj : j < 12) : rl_R (ro_q14 R (nI j)) (cl_kc C (nI j)) := by
  obtain ⟨a1, a2, a3, a4, a5, a6⟩ := H
  exact ⟨a1, a2, a3, a4, a5, ⟨rfl, Or.inr (nI_pos (show j < 2 ^ 31 by omega))⟩⟩
theorem lc_2605 (L : lw_I xs n c h C S th R b) (hb : b + 13 < 2 ^ 30) : lc_P xs n c b v5 (jx_E 293 2605 [.ref 199, .ref 200, .ref 711, .ref 719, .ref 720, .int v5, v6, v7, v8] [] h) := by
  obtain ⟨K, I, J, Q, O, H, N, -⟩ := id L
  have hX : ∀ k h2 v h3 t S' R', jx_A 288 [.ref 200, .ref 719] h = some (.inl (some (.int k)), h2) → mz_K xs h2 → ro_I h2 711 S th R → jx_A 234 [.ref 711] h2 = some (.inl (some v), h3) → ty_I v → ro_I h3 711 S' t R' → jx_E 293 2605 [.ref 199, .ref 200, .ref 711, .ref 719, .ref 720, .int v5, v6, v7, v8] [] h = if t = k then (if k = 0 then (jx_lL h3 719 102 0 (fun x => if (lg_cmp x (cv_I v)) = 0 then (jx_E 293 2851 [.ref 199, .ref 200, .ref 711, .ref 719, .ref 720, .int v5, .int k, v, v8] [] h3) else (some (.inl (some (.int 0)), h3)))) else (jx_E 293 2851 [.ref 199, .ref 200, .ref 711, .ref 719, .ref 720, .int v5, .int k, v, v8] [] h3)) else (some (.inl (some (.int 0)), h3)) := by
    intro k h2 v h3 t S' R' xw K2 J2 xm tv J3
    obtain ⟨y, rfl⟩ := tv
    rw [b_293_2605, jx_cI_e xw, ro_is J2, jx_cI_e xm, ro_is J3, jx_cI_e (m_134 J3)] <;> rfl
  obtain ⟨o4a, o4b, o4c⟩ := H.2.2.2.1
  have ec : pz_c C.2.2.2.2.2.1.2 C.2.2.2.2.2.1.1 = pz_c R.2.2.2.2.1 (ro_il R) := by
    funext i
    unfold pz_c
    rw [← o4a]
    by_cases z : i < ro_il R
    · rw [if_pos z, if_pos z, (o4c i z).1]
    · rw [if_neg z, if_neg z]
  have nx := N.1
  have x0 := c_107 K I (by omega)
  have y0 : ∀ h2, mz_K xs h2 → ro_I h2 711 S th R → _ := fun h2 K2 J2 => m_234 K2 J2 Q O (by omega) (lw_pm L) o4b (fun i hi => (o4c i hi).2)
  rw [ec, ← o4a] at x0
  have NN : rl_N (cl_N C) b := rl_N_X N
  have HN : ∀ cm cn, rl_R (ro_e0 R S cm cn) (cl_N C) := fun cm cn => rl_e0 H
  cases e : pz_A (pz_c R.2.2.2.2.1 (ro_il R)) (ro_il R) 12 0 with
  | inl e2 =>
    rw [e] at x0
    obtain ⟨h1, a2, a3, a4⟩ := x0
    obtain ⟨h3, S', R', k, v, t, X, L'⟩ := lw_exK (mm := 234) (bs := [.ref 711]) (w := 288) (ws := [.ref 200, .ref 719]) (cv := cv_I) (ty := ty_I) (F := (fun k v h3 => jx_E 293 2851 [.ref 199, .ref 200, .ref 711, .ref 719, .ref 720, .int v5, .int k, v, v8] [] h3)) (N := (fun h3 => some (.inl (some (.int 0)), h3))) (X := jx_E 293 2605 [.ref 199, .ref 200, .ref 711, .ref 719, .ref 720, .int v5, v6, v7, v8] [] h) (o := .inr eIA) (ce := ce_xe) (dv := .int 0) (C' := cl_kp (cl_N C) (nI e2)) L ⟨h1, a2, a3, a4⟩ (fun h2 K2 J2 => by
      have q := y0 h2 K2 J2
      rw [e] at q
      obtain ⟨h3, cm, cn, l60, b2, b3, b4⟩ := q
      exact ⟨S, _, ⟨h3, b4, b2, b3⟩, Q, rl_e1 H l60⟩) O (rl_N_w NN (Nat.le_add_right b 13)) (fun v e => by cases e) ⟨_, rfl⟩ (fun s e => by cases e; decide) (fun v h1 tv e => by
      obtain ⟨y, rfl⟩ := tv
      exact w_288_ok I e) (fun s h1 e x => by cases e; rw [show ce_xe eIA = 1 from by decide]; exact w_288_eIA I x) hX
    exact ⟨h3, .int k, v, v8, _, S', t, R', X, L'⟩
  | inr l =>
    have l12 := pz_A_len 12 0 e
    have hn := lw_n L
    rw [e] at x0
    rcases x0 with ⟨M', h1, a1, a2, a3, a4⟩ | ⟨j, h1, a1, a2, a3, a4⟩
    · have nx' := ex_l_nx l a1
      obtain ⟨h3, S', R', k, v, t, X, L'⟩ := lw_exK (mm := 234) (bs := [.ref 711]) (w := 288) (ws := [.ref 200, .ref 719]) (cv := cv_I) (ty := ty_I) (F := (fun k v h3 => jx_E 293 2851 [.ref 199, .ref 200, .ref 711, .ref 719, .ref 720, .int v5, .int k, v, v8] [] h3)) (N := (fun h3 => some (.inl (some (.int 0)), h3))) (X := jx_E 293 2605 [.ref 199, .ref 200, .ref 711, .ref 719, .ref 720, .int v5, v6, v7, v8] [] h) (o := .inl (.int (nI l.length))) (ce := ce_xe) (dv := .int 0) (C' := cl_push (cl_M (cl_N C) M') C.1) L ⟨h1, a2, a3, a4⟩ (fun h2 K2 J2 => by
        have q := y0 h2 K2 J2
        rw [e] at q
        obtain ⟨cm, cn, ⟨M'', h3, S', b1, b2, b3, b4, b5⟩ | ⟨j, h3, b1, -⟩⟩ := q
        · have eM := ex_l_u l hn a1 b1
          subst eM
          exact ⟨S', _, ⟨h3, b5, b2, b3⟩, b4, rl_fst (M1 := C.1) (X := (cl_push (cl_N C) C.1).2) (rl_push (R := ro_e0 R S cm cn) (C := cl_N C) (HN cm cn) Q O)⟩
        · exact (ex_lf_x l hn a1 b1).elim) (mm_ok_l l O a1) (rl_N_push (C := cl_N C) NN (Nat.le_add_right b 13) (by omega)) (fun v e => by cases e; exact ⟨_, rfl⟩) ⟨_, rfl⟩ (fun s e => by cases e) (fun v h1 tv e => by
      obtain ⟨y, rfl⟩ := tv
      exact w_288_ok I e) (fun s h1 e _ => by cases e) hX
      exact ⟨h3, .int k, v, v8, _, S', t, R', X, L'⟩
    · obtain ⟨h3, S', R', k, v, t, X, L'⟩ := lw_exK (mm := 234) (bs := [.ref 711]) (w := 288) (ws := [.ref 200, .ref 719]) (cv := cv_I) (ty := ty_I) (F := (fun k v h3 => jx_E 293 2851 [.ref 199, .ref 200, .ref 711, .ref 719, .ref 720, .int v5, .int k, v, v8] [] h3)) (N := (fun h3 => some (.inl (some (.int 0)), h3))) (X := jx_E 293 2605 [.ref 199, .ref 200, .ref 711, .ref 719, .ref 720, .int v5, v6, v7, v8] [] h) (o := .inr eUO) (ce := ce_xe) (dv := .int 0) (C' := cl_kc (cl_N C) (nI j)) L ⟨h1, a2, a3, a4⟩ (fun h2 K2 J2 => by
        have q := y0 h2 K2 J2
        rw [e] at q
        obtain ⟨cm, cn, ⟨M'', h3, S', b1, -⟩ | ⟨j', h3, b1, j12, b2, b3, b4⟩⟩ := q
        · exact (ex_lf_x l hn b1 a1).elim
        · have ej := ex_f_u l hn a1 b1
          subst ej
          exact ⟨S, _, ⟨h3, b4, b2, b3⟩, Q, rl_kc (HN cm cn) j12⟩) O (rl_N_w NN (Nat.le_add_right b 13)) (fun v e => by cases e) ⟨_, rfl⟩ (fun s e => by cases e; decide) (fun v h1 tv e => by
      obtain ⟨y, rfl⟩ := tv
      exact w_288_ok I e) (fun s h1 e x => by cases e; rw [show ce_xe eUO = 2 from by decide]; exact w_288_eUO I x) hX
      exact ⟨h3, .int k, v, v8, _, S', t, R', X, L'⟩
theorem lc_2301 (L : lw_I xs n c h C S th R b) : lc_P xs n c b v5 (jx_E 293 2301 [.ref 199, .ref 200, .ref 711, .ref 719, .ref 720, .int v5, v6, v7, v8] [] h) := by
  obtain ⟨K, I, J, Q, O, H, N, -⟩ := id L
  have hn := lw_n L
  have l0 := mm_pr_2 C.1 hn
  have onlo := mm_on_lo C.1
  have x0 := c_101 K I
  obtain ⟨o, eo⟩ : ∃ o : q_O, o = if mm_on C.1 = 0 then .inr eAR else .inl (.double (fq_d (mm_pr C.1 1) (mm_on C.1))) := ⟨_, rfl⟩
  have hc : co_P h C (jx_A 101 [.ref 200] h) o := by
    refine ⟨h, ?_, I, mz_eq_rf⟩
    rw [x0, eo]
    by_cases z : mm_on C.1 = 0
    · rw [if_pos z, if_pos z]; rfl
    · rw [if_neg z, if_neg z]; rfl
  have hm := om_Q (S := S) (th := th) (R := R) (C := C) (mm := 220) (bs := [.ref 711]) Fs_mj (o := o) eo (fun h2 J2 => m_220 J2 Q) Q H
  have sv : ∀ v, o = .inl v → mm_on C.1 ≠ 0 ∧ v = .double (fq_d (mm_pr C.1 1) (mm_on C.1)) := fun v e => by
    rw [eo] at e
    by_cases z : mm_on C.1 = 0
    · rw [if_pos z] at e; cases e
    · rw [if_neg z] at e; cases e; exact ⟨z, rfl⟩
  have sx : ∀ s, o = .inr s → s = eAR := fun s e => by
    rw [eo] at e
    by_cases z : mm_on C.1 = 0
    · rw [if_pos z] at e; cases e; rfl
    · rw [if_neg z] at e; cases e
  obtain ⟨h3, S', R', k, v, t, X, tv, L'⟩ := lw_exD (w := 283) (ws := [.ref 200, .ref 720]) (d := fq_d (mm_pr C.1 1) (mm_on C.1)) (F := fun k v h3 => jx_E 293 2851 [.ref 199, .ref 200, .ref 711, .ref 719, .ref 720, .int v5, .int k, v, jx_j] [] h3) (G := fun x7 v h5 => match v with | .double y4 => if (Op.cmpValue (FP.dcmp x7 y4) .l) = 0 then (jx_E 293 2851 [.ref 199, .ref 200, .ref 711, .ref 719, .ref 720, .int v5, .int 0, .double y4, jx_j] [] h5) else (jx_lD h5 720 103 0 (fun x8 => jx_lD h5 720 103 0 (fun x9 => if (Op.cmpValue (FP.dcmp x8 x9) .l) = 0 then (some (.inl (some (.int 0)), h5)) else (if (Op.cmpValue (FP.dcmp y4 y4) .l) = 0 then (some (.inl (some (.int 0)), h5)) else (jx_E 293 2851 [.ref 199, .ref 200, .ref 711, .ref 719, .ref 720, .int v5, .int 0, .double y4, jx_j] [] h5))))) | _ => none) (N := (fun h3 => some (.inl (some (.int 0)), h3))) (X := jx_E 293 2301 [.ref 199, .ref 200, .ref 711, .ref 719, .ref 720, .int v5, v6, v7, v8] [] h) L hc hm (rl_N_w N (Nat.le_add_right b 13)) (fun s e => (by decide : (1 : Int32) ≠ 0)) (fun v h1 e x => by
    obtain ⟨z, rfl⟩ := sv v e
    rw [a_283, cl_I_is I, jx_hD_e x]) (fun s h1 e x => by
    have es := sx s e
    subst es
    rw [a_283, cl_I_is I, jx_hD_x x, jx_hd_y, jx_U_eq, b_283_10]; rfl) (fun v h3 e _ => by
    obtain ⟨z, rfl⟩ := sv v e
    exact if_pos (fd_at (by omega) (by omega) (by omega)).2) (fun k h2 v h3 t S' R' xw J2 xm tv J3 => by
    have dv : ∃ y, v = .double y := by
      rcases tv with e | e
      · exact ⟨_, (sv v e).2⟩
      · exact ⟨_, e⟩
    obtain ⟨y, rfl⟩ := dv
    rw [b_293_2301, jx_cI_e xw, ro_is J2, jx_cD_e xm, ro_is J3, jx_cI_e (m_134 J3)]
    by_cases tk : t = k
    · rw [if_pos tk, if_pos tk]
      by_cases k0 : k = 0
      · subst k0
        rw [if_pos rfl]
      · rw [if_neg k0, if_neg k0]
    · rw [if_neg tk, if_neg tk])
  exact ⟨h3, .int k, v, jx_j, C, S', t, R', X, L'⟩
theorem lc_2191 (L : lw_I xs n c h C S th R b) : lc_P xs n c b v5 (jx_E 293 2191 [.ref 199, .ref 200, .ref 711, .ref 719, .ref 720, .int v5, v6, v7, v8] [] h) := by
  obtain ⟨K, I, J, Q, O, H, N, -⟩ := id L
  have hn := lw_n L
  have l0 := mm_pr_2 C.1 hn
  have x0 := c_99 K I
  obtain ⟨o, eo⟩ : ∃ o : q_O, o = if mm_pr C.1 1 + mm_pr C.1 2 = 0 then .inr eAR else .inl (.float (fq_f (mm_pr C.1 1) (mm_pr C.1 1 + mm_pr C.1 2))) := ⟨_, rfl⟩
  have hc : co_P h C (jx_A 99 [.ref 200] h) o := by
    refine ⟨h, ?_, I, mz_eq_rf⟩
    rw [x0, eo]
    by_cases z : mm_pr C.1 1 + mm_pr C.1 2 = 0
    · rw [if_pos z, if_pos z]; rfl
    · rw [if_neg z, if_neg z]; rfl
  have hm := om_Q (S := S) (th := th) (R := R) (C := C) (mm := 218) (bs := [.ref 711]) Fs_jf (o := o) eo (fun h2 J2 => m_218 J2 Q) Q H
  have sv : ∀ v, o = .inl v → mm_pr C.1 1 + mm_pr C.1 2 ≠ 0 ∧ v = .float (fq_f (mm_pr C.1 1) (mm_pr C.1 1 + mm_pr C.1 2)) := fun v e => by
    rw [eo] at e
    by_cases z : mm_pr C.1 1 + mm_pr C.1 2 = 0
    · rw [if_pos z] at e; cases e
    · rw [if_neg z] at e; cases e; exact ⟨z, rfl⟩
  have sx : ∀ s, o = .inr s → s = eAR := fun s e => by
    rw [eo] at e
    by_cases z : mm_pr C.1 1 + mm_pr C.1 2 = 0
    · rw [if_pos z] at e; cases e; rfl
    · rw [if_neg z] at e; cases e
  obtain ⟨h3, S', R', k, v, t, X, tv, L'⟩ := lw_exD (w := 281) (ws := [.ref 200, .ref 720]) (d := FP.f2d (fq_f (mm_pr C.1 1) (mm_pr C.1 1 + mm_pr C.1 2))) (F := fun k v h3 => jx_E 293 2851 [.ref 199, .ref 200, .ref 711, .ref 719, .ref 720, .int v5, .int k, v, v8] [] h3) (G := fun x7 v h5 => match v with | .float y4 => jx_n64 (FP.f2d y4) (if (Op.cmpValue (FP.dcmp x7 (FP.f2d y4)) .l) = 0 then (jx_E 293 2851 [.ref 199, .ref 200, .ref 711, .ref 719, .ref 720, .int v5, .int 0, .float y4, v8] [] h5) else (jx_lD h5 720 103 0 (fun x8 => jx_lD h5 720 103 0 (fun x9 => if (Op.cmpValue (FP.dcmp x8 x9) .l) = 0 then (some (.inl (some (.int 0)), h5)) else (if (Op.cmpValue (FP.fcmp y4 y4) .l) = 0 then (some (.inl (some (.int 0)), h5)) else (jx_E 293 2851 [.ref 199, .ref 200, .ref 711, .ref 719, .ref 720, .int v5, .int 0, .float y4, v8] [] h5)))))) | _ => none) (N := (fun h3 => some (.inl (some (.int 0)), h3))) (X := jx_E 293 2191 [.ref 199, .ref 200, .ref 711, .ref 719, .ref 720, .int v5, v6, v7, v8] [] h) L hc hm (rl_N_w N (Nat.le_add_right b 13)) (fun s e => (by decide : (1 : Int32) ≠ 0)) (fun v h1 e x => by
    obtain ⟨z, rfl⟩ := sv v e
    rw [a_281, cl_I_is I, jx_hF_e x, jx_n64_e (fq_at (by omega) (by omega) l0).2.1]) (fun s h1 e x => by
    have es := sx s e
    subst es
    rw [a_281, cl_I_is I, jx_hF_x x, jx_hd_y, jx_U_eq, b_281_11]; rfl) (fun v h3 e _ => by
    obtain ⟨z, rfl⟩ := sv v e
    dsimp only
    rw [jx_n64_e (fq_at (by omega) (by omega) l0).2.1, if_pos (fq_at (by omega) (by omega) l0).2.2.1]) (fun k h2 v h3 t S' R' xw J2 xm tv J3 => by
    have dv : ∃ y, v = .float y := by
      rcases tv with e | e
      · exact ⟨_, (sv v e).2⟩
      · exact ⟨_, e⟩
    obtain ⟨y, rfl⟩ := dv
    rw [b_293_2191, jx_cI_e xw, ro_is J2, jx_cF_e xm, ro_is J3, jx_cI_e (m_134 J3)]
    by_cases tk : t = k
    · rw [if_pos tk, if_pos tk]
      by_cases k0 : k = 0
      · subst k0
        rw [if_pos rfl]
      · rw [if_neg k0, if_neg k0]
    · rw [if_neg tk, if_neg tk])
  exact ⟨h3, .int k, v, v8, C, S', t, R', X, L'⟩
end LW
end JX
