/-! The other object reads any command. -/
section JX
section RK
variable {xs : List Int32} {h0 h : jx_H} {y : Nat} {S : Nat → Nat} {th : Int32} {R : ro_R} {po cn : Nat} {mf : Bool} {cm : Nat → Int32}
theorem pz_b_k : ∀ k, k < 128 → pz_b k = nI k := fun k hk => pz_b_lt (by omega)
theorem m_232 (K : mz_K xs h0) (J : rk_J h0 h y S th R po false cm cn) (hL : ro_il R ≤ 60) (ht : ∀ i, i < ro_il R → R.2.2.2.2.1 i < 65536) (hc : cn < 60) : rx_C h0 y S th R cm (cn + 1) (6 * cn) (pz_C (pz_c R.2.2.2.2.1 (ro_il R)) po) (jx_A 232 [.ref y] h) := by
  obtain ⟨h1, x1, J1⟩ := rk_p16 J (cn + 1)
  have e27 : jx_A 227 [.ref y, .int 0] h1 = _ := m_227 J1 hL ht 0 (by decide)
  rw [Nat.add_zero] at e27
  have e28 : jx_A 227 [.ref y, .int 1] h1 = _ := m_227 J1 hL ht 1 (by decide)
  have q116 : pz_b ((pz_c R.2.2.2.2.1 (ro_il R)) po) = 116 ↔ (pz_c R.2.2.2.2.1 (ro_il R)) po = 116 := pz_b_eq (k := 116) (by decide)
  have q117 : pz_b ((pz_c R.2.2.2.2.1 (ro_il R)) (po + 1)) = 117 ↔ (pz_c R.2.2.2.2.1 (ro_il R)) (po + 1) = 117 := pz_b_eq (k := 117) (by decide)
  have E : ∃ s0, jx_A 232 [.ref y] h = jx_E 232 56 [.ref y, .int (nI (6 * cn)), jx_j, jx_j, jx_j] [.int s0] h1 ∧ s0 = if (pz_c R.2.2.2.2.1 (ro_il R)) po = 116 ∧ (pz_c R.2.2.2.2.1 (ro_il R)) (po + 1) = 117 then 117 else pz_b ((pz_c R.2.2.2.2.1 (ro_il R)) po) := by
    have E0 : jx_A 232 [.ref y] h = if pz_b ((pz_c R.2.2.2.2.1 (ro_il R)) po) = 116 then (if pz_b ((pz_c R.2.2.2.2.1 (ro_il R)) (po + 1)) = 117 then (jx_E 232 56 [.ref y, .int (nI (6 * cn)), jx_j, jx_j, jx_j] [.int 117] h1) else (jx_E 232 56 [.ref y, .int (nI (6 * cn)), jx_j, jx_j, jx_j] [.int (pz_b ((pz_c R.2.2.2.2.1 (ro_il R)) po))] h1)) else (jx_E 232 56 [.ref y, .int (nI (6 * cn)), jx_j, jx_j, jx_j] [.int (pz_b ((pz_c R.2.2.2.2.1 (ro_il R)) po))] h1) := by
      rw [a_232, rk_12 J, if_pos (show bI false = 0 from rfl), rk_16 J, rk_16 J, nI_1, x1, rk_is J1, jx_cI_e e27, rk_is J1, jx_cI_e e28, rk_is J1, jx_cI_e e27, mz_6 cn hc]
    rw [E0]
    by_cases a : (pz_c R.2.2.2.2.1 (ro_il R)) po = 116
    · rw [if_pos (q116.mpr a)]
      by_cases b : (pz_c R.2.2.2.2.1 (ro_il R)) (po + 1) = 117
      · rw [if_pos (q117.mpr b)]
        exact ⟨_, rfl, (if_pos ⟨a, b⟩).symm⟩
      · rw [if_neg (fun q => b (q117.mp q))]
        exact ⟨_, rfl, (if_neg (fun q => b q.2)).symm⟩
    · rw [if_neg (fun q => a (q116.mp q))]
      exact ⟨_, rfl, (if_neg (fun q => a q.1)).symm⟩
  obtain ⟨s0, E, hs⟩ := E
  obtain ⟨h2, x2, J2⟩ := rk_pc J1 (k := 6 * cn) (by omega) s0
  have f27 : jx_A 227 [.ref y, .int 0] h2 = _ := m_227 J2 hL ht 0 (by decide)
  rw [Nat.add_zero] at f27
  rw [E, b_232_56, rk_15 J1, x2]
  have hT := pz_C_T (pz_c R.2.2.2.2.1 (ro_il R)) po
  have i1 : nI (6 * cn) + 1 = nI (6 * cn + 1) := nI_1 _
  have i2 : nI (6 * cn) + 2 = nI (6 * cn + 2) := nIp2 _
  have i3 : nI (6 * cn) + 3 = nI (6 * cn + 3) := nIp3 _
  by_cases k0 : (pz_c R.2.2.2.2.1 (ro_il R)) po = 110
  · have kw : pz_kw (pz_c R.2.2.2.2.1 (ro_il R)) po = 0 := by unfold pz_kw; rw [if_pos k0]
    have s : s0 = 110 := by rw [hs, if_neg (fun q => by rw [k0] at q; exact absurd q.1 (by decide)), k0]; rfl
    rw [kw] at hT
    clear hs
    subst s
    obtain ⟨h3, po3, mf3, x3, J3, H3⟩ := rx_w K J2 hL ht (w := 30) (i := 0) wd_30
    obtain ⟨z0, w0, h4, po4, mf4, x4, J4, q4, H4⟩ := rx_103 J3 hL ht (b := 6 * cn) (by omega) H3 110 jx_j
    obtain ⟨z1, w1, z2, w2, z3, w3, z4, w4, h5, po5, mf5, x5, J5, q5, H5⟩ := rx_139 J4 hL ht (b := 6 * cn) (by omega) H4 110 z0
    rw [if_pos (show (110 : Int32) = 110 from rfl)]
    refine rx_fin hT ?_ J5 ?_ H5 (by decide) (fun e => ?_)
    · rw [rk_is J2, jx_cV_e x3, rk_is J3]
      exact x4.trans x5
    · exact cm_lo_u (cm_lo_u (cm_lo_u (cm_lo_u (cm_lo_u (cm_lo_u cm_lo_r (Nat.le_refl _)) (by omega)) (by omega)) (by omega)) (by omega)) (by omega)
    · obtain ⟨a5, ⟨e1, l1⟩, ⟨e2, l2⟩, ⟨e3, l3⟩, e4, l4⟩ := q5 e
      obtain ⟨a4, e0, l0⟩ := q4 a5
      subst e0; subst e1; subst e2; subst e3; subst e4
      refine ⟨by simp [cm_r, mz_up, pz_v], fun x hx => ?_⟩
      simp at hx
      omega
  by_cases k1 : (pz_c R.2.2.2.2.1 (ro_il R)) po = 112
  · have kw : pz_kw (pz_c R.2.2.2.2.1 (ro_il R)) po = 1 := by unfold pz_kw; rw [if_neg k0, if_pos k1]
    have s : s0 = 112 := by rw [hs, if_neg (fun q => by rw [k1] at q; exact absurd q.1 (by decide)), k1]; rfl
    rw [kw] at hT
    clear hs
    subst s
    obtain ⟨h3, po3, mf3, x3, J3, H3⟩ := rx_w K J2 hL ht (w := 31) (i := 1) wd_31
    obtain ⟨z4, w4, h4, po4, mf4, x4, J4, q4, H4⟩ := rx_vs (rx_n J3 hL ht H3) (k := 6 * cn + 1) (by omega)
    obtain ⟨w5, h5, po5, mf5, x5, J5, q5, H5⟩ := rx_k K J4 hL ht (w := 32) (k := 64) (by decide) wd_32 H4
    obtain ⟨z6, w6, h6, po6, mf6, x6, J6, q6, H6⟩ := rx_vs (rx_d J5 hL ht false H5) (k := 6 * cn + 2) (by omega)
    obtain ⟨z7, w7, h7, po7, mf7, x7, J7, q7, H7⟩ := rx_vs (rx_d J6 hL ht false H6) (k := 6 * cn + 3) (by omega)
    have x6 : ∀ F : jx_H → jx_R, jx_cI jx_A 230 [.ref y, .int 10] h5 (fun w h2 => jx_st h2 (y + 7) 100 (nI (6 * cn + 2)) (.int w) F) = F h6 := x6
    have x7 : ∀ F : jx_H → jx_R, jx_cI jx_A 230 [.ref y, .int 10] h6 (fun w h2 => jx_st h2 (y + 7) 100 (nI (6 * cn + 3)) (.int w) F) = F h7 := x7
    rw [if_neg (show ¬ (112 : Int32) = 110 by decide), if_pos (show (112 : Int32) = 112 from rfl)]
    refine rx_fin hT ?_ J7 ?_ H7 (by decide) (fun e => ?_)
    · rw [rk_is J2, jx_cV_e x3, rk_15 J3, rk_is J3, i1, i2, i3, x4, rk_is J4, jx_cV_e x5, rk_15 J5, rk_is J5, x6, rk_15 J6, rk_is J6, x7]
    · exact cm_lo_u (cm_lo_u (cm_lo_u (cm_lo_u cm_lo_r (Nat.le_refl _)) (by omega)) (by omega)) (by omega)
    · obtain ⟨a6, e7, l7⟩ := q7 e
      obtain ⟨a5, e6, l6⟩ := q6 a6
      obtain ⟨a4, e5⟩ := q5 a5
      obtain ⟨a3, e4, l4⟩ := q4 a4
      subst e4; subst e5; subst e6; subst e7
      refine ⟨by simp [cm_r, mz_up, pz_v], fun x hx => ?_⟩
      simp at hx
      omega
  by_cases k3 : (pz_c R.2.2.2.2.1 (ro_il R)) po = 116 ∧ (pz_c R.2.2.2.2.1 (ro_il R)) (po + 1) = 117
  · have kw : pz_kw (pz_c R.2.2.2.2.1 (ro_il R)) po = 3 := by unfold pz_kw; rw [if_neg k0, if_neg k1, if_pos k3.1, if_pos k3.2]
    have s : s0 = 117 := by rw [hs, if_pos k3]
    rw [kw] at hT
    clear hs
    subst s
    obtain ⟨h3, po3, mf3, x3, J3, H3⟩ := rx_w K J2 hL ht (w := 33) (i := 3) wd_33
    obtain ⟨z4, w4, h4, po4, mf4, x4, J4, q4, H4⟩ := rx_vs (rx_n J3 hL ht H3) (k := 6 * cn + 1) (by omega)
    obtain ⟨w5, h5, po5, mf5, x5, J5, q5, H5⟩ := rx_k K J4 hL ht (w := 35) (k := 42) (by decide) wd_35 H4
    obtain ⟨z6, w6, h6, po6, mf6, x6, J6, q6, H6⟩ := rx_vs (rx_d J5 hL ht false H5) (k := 6 * cn + 2) (by omega)
    have x6 : ∀ F : jx_H → jx_R, jx_cI jx_A 230 [.ref y, .int 10] h5 (fun w h2 => jx_st h2 (y + 7) 100 (nI (6 * cn + 2)) (.int w) F) = F h6 := x6
    rw [if_neg (show ¬ (117 : Int32) = 110 by decide), if_neg (show ¬ (117 : Int32) = 112 by decide), if_pos (show (117 : Int32) = 117 from rfl)]
    refine rx_fin hT ?_ J6 ?_ H6 (by decide) (fun e => ?_)
    · rw [rk_is J2, jx_cI_e f27, if_pos (q116.mpr k3.1), b_232_260, rk_is J2, jx_cV_e x3, rk_15 J3, rk_is J3, i1, i2, x4, rk_is J4, jx_cV_e x5, rk_15 J5, rk_is J5, x6]
    · exact cm_lo_u (cm_lo_u (cm_lo_u cm_lo_r (Nat.le_refl _)) (by omega)) (by omega)
    · obtain ⟨a5, e6, l6⟩ := q6 e
      obtain ⟨a4, e5⟩ := q5 a5
      obtain ⟨a3, e4, l4⟩ := q4 a4
      subst e4; subst e5; subst e6
      refine ⟨by simp [cm_r, mz_up, pz_v], fun x hx => ?_⟩
      simp at hx
      omega
  have hs : s0 = pz_b ((pz_c R.2.2.2.2.1 (ro_il R)) po) := by rw [hs, if_neg k3]
  by_cases k2 : (pz_c R.2.2.2.2.1 (ro_il R)) po = 116
  · have kw : pz_kw (pz_c R.2.2.2.2.1 (ro_il R)) po = 2 := by unfold pz_kw; rw [if_neg k0, if_neg k1, if_pos k2, if_neg (fun q => k3 ⟨k2, q⟩)]
    have s : s0 = 116 := by rw [hs, k2]; rfl
    rw [kw] at hT
    clear hs
    subst s
    obtain ⟨h3, po3, mf3, x3, J3, H3⟩ := rx_w K J2 hL ht (w := 38) (i := 2) wd_38
    obtain ⟨z4, w4, h4, po4, mf4, x4, J4, q4, H4⟩ := rx_vs (rx_n J3 hL ht H3) (k := 6 * cn + 1) (by omega)
    rw [if_neg (show ¬ (116 : Int32) = 110 by decide), if_neg (show ¬ (116 : Int32) = 112 by decide), if_neg (show ¬ (116 : Int32) = 117 by decide), if_neg (show ¬ (116 : Int32) = 115 by decide), if_pos (show (116 : Int32) = 116 from rfl)]
    refine rx_fin hT ?_ J4 ?_ H4 (by decide) (fun e => ?_)
    · rw [b_232_358, if_pos rfl, rk_is J2, jx_cV_e x3, rk_15 J3, rk_is J3, i1, x4]
    · exact cm_lo_u (cm_lo_u cm_lo_r (Nat.le_refl _)) (by omega)
    · obtain ⟨a3, e4, l4⟩ := q4 e
      subst e4
      refine ⟨by simp [cm_r, mz_up, pz_v], fun x hx => ?_⟩
      simp at hx
      omega
  by_cases k4 : (pz_c R.2.2.2.2.1 (ro_il R)) po = 115
  · have kw : pz_kw (pz_c R.2.2.2.2.1 (ro_il R)) po = 4 := by unfold pz_kw; rw [if_neg k0, if_neg k1, if_neg k2, if_pos k4]
    have s : s0 = 115 := by rw [hs, k4]; rfl
    rw [kw] at hT
    clear hs
    subst s
    obtain ⟨h3, po3, mf3, x3, J3, H3⟩ := rx_w K J2 hL ht (w := 36) (i := 4) wd_36
    obtain ⟨z4, w4, h4, po4, mf4, x4, J4, q4, H4⟩ := rx_vs (rx_n J3 hL ht H3) (k := 6 * cn + 1) (by omega)
    obtain ⟨w5, h5, po5, mf5, x5, J5, q5, H5⟩ := rx_k K J4 hL ht (w := 37) (k := 38) (by decide) wd_37 H4
    obtain ⟨z6, w6, h6, po6, mf6, x6, J6, q6, H6⟩ := rx_vs (rx_n J5 hL ht H5) (k := 6 * cn + 2) (by omega)
    rw [if_neg (show ¬ (115 : Int32) = 110 by decide), if_neg (show ¬ (115 : Int32) = 112 by decide), if_neg (show ¬ (115 : Int32) = 117 by decide), if_pos (show (115 : Int32) = 115 from rfl)]
    refine rx_fin hT ?_ J6 ?_ H6 (by decide) (fun e => ?_)
    · rw [rk_is J2, jx_cV_e x3, rk_15 J3, rk_is J3, i1, i2, x4, rk_is J4, jx_cV_e x5, rk_15 J5, rk_is J5, x6]
    · exact cm_lo_u (cm_lo_u (cm_lo_u cm_lo_r (Nat.le_refl _)) (by omega)) (by omega)
    · obtain ⟨a5, e6, l6⟩ := q6 e
      obtain ⟨a4, e5⟩ := q5 a5
      obtain ⟨a3, e4, l4⟩ := q4 a4
      subst e4; subst e5; subst e6
      refine ⟨by simp [cm_r, mz_up, pz_v], fun x hx => ?_⟩
      simp at hx
      omega
  by_cases k6 : (pz_c R.2.2.2.2.1 (ro_il R)) po = 100
  · have kw : pz_kw (pz_c R.2.2.2.2.1 (ro_il R)) po = 6 := by unfold pz_kw; rw [if_neg k0, if_neg k1, if_neg k2, if_neg k4, if_pos k6]
    have s : s0 = 100 := by rw [hs, k6]; rfl
    rw [kw] at hT
    clear hs
    subst s
    obtain ⟨h3, po3, mf3, x3, J3, H3⟩ := rx_w K J2 hL ht (w := 39) (i := 6) wd_39
    obtain ⟨z4, w4, h4, po4, mf4, x4, J4, q4, H4⟩ := rx_vs (rx_n J3 hL ht H3) (k := 6 * cn + 1) (by omega)
    rw [if_neg (show ¬ (100 : Int32) = 110 by decide), if_neg (show ¬ (100 : Int32) = 112 by decide), if_neg (show ¬ (100 : Int32) = 117 by decide), if_neg (show ¬ (100 : Int32) = 115 by decide), if_neg (show ¬ (100 : Int32) = 116 by decide), if_pos (show (100 : Int32) = 100 from rfl)]
    refine rx_fin hT ?_ J4 ?_ H4 (by decide) (fun e => ?_)
    · rw [b_232_358, if_neg (by decide), rk_is J2, jx_cV_e x3, rk_15 J3, rk_is J3, i1, x4]
    · exact cm_lo_u (cm_lo_u cm_lo_r (Nat.le_refl _)) (by omega)
    · obtain ⟨a3, e4, l4⟩ := q4 e
      subst e4
      refine ⟨by simp [cm_r, mz_up, pz_v], fun x hx => ?_⟩
      simp at hx
      omega
  have kw : pz_kw (pz_c R.2.2.2.2.1 (ro_il R)) po = 5 := by unfold pz_kw; rw [if_neg k0, if_neg k1, if_neg k2, if_neg k4, if_neg k6]
  rw [kw] at hT
  obtain ⟨h3, po3, mf3, x3, J3, H3⟩ := rx_w K J2 hL ht (w := 34) (i := 5) wd_34
  have f102 : mf3 = false → (pz_c R.2.2.2.2.1 (ro_il R)) po = 102 := fun e => by
    subst e
    by_cases z : (pz_c R.2.2.2.2.1 (ro_il R)) po = 102
    · exact z
    · exfalso
      have lt : pz_lt (pz_c R.2.2.2.2.1 (ro_il R)) (pz_W 5) po = 0 := if_neg z
      have tt : pz_T (pz_c R.2.2.2.2.1 (ro_il R)) 5 po = .inl (po + 0) := by unfold pz_T; rw [lt]; rfl
      rw [tt] at H3
      have H3 : (Sum.inl (po + 0) : pz_R (List Nat)) = .inr ([] ++ [], po3) := H3
      cases H3
  rw [if_neg (show ¬ s0 = 110 from fun q => k0 ((pz_b_eq (k := 110) (by decide)).mp (hs.symm.trans q))), if_neg (show ¬ s0 = 112 from fun q => k1 ((pz_b_eq (k := 112) (by decide)).mp (hs.symm.trans q)))]
  by_cases k7 : (pz_c R.2.2.2.2.1 (ro_il R)) po = 117
  · have m3 : mf3 = true := by
      cases e : mf3 with
      | true => rfl
      | false => have := f102 e; omega
    subst m3
    have s : s0 = 117 := by rw [hs, k7]; rfl
    obtain ⟨h4, x4, J4⟩ := m_231m J3 hL ht
    obtain ⟨h5, x5, J5⟩ := rk_pc J4 (k := 6 * cn + 1) (by omega) 0
    have x6 := m_228m K J5 (w := 35) (l := [42]) wd_35
    obtain ⟨h7, x7, J7⟩ := m_230m J5 hL ht 10
    obtain ⟨h8, x8, J8⟩ := rk_pc J7 (k := 6 * cn + 2) (by omega) 0
    rw [if_pos s]
    refine rx_fin hT ?_ J8 ?_ H3 (by decide) (fun e => by cases e)
    · rw [rk_is J2, jx_cI_e f27, if_neg (fun q => k2 (q116.mp q)), b_232_260, rk_is J2, jx_cV_e x3, rk_15 J3, rk_is J3, jx_cI_e x4, i1, x5, rk_is J5, jx_cV_e x6, rk_15 J5, rk_is J5, jx_cI_e x7, i2, x8]
    · exact cm_lo_u (cm_lo_u (cm_lo_u cm_lo_r (Nat.le_refl _)) (by omega)) (by omega)
  · rw [if_neg (show ¬ s0 = 117 from fun q => k7 ((pz_b_eq (k := 117) (by decide)).mp (hs.symm.trans q))), if_neg (show ¬ s0 = 115 from fun q => k4 ((pz_b_eq (k := 115) (by decide)).mp (hs.symm.trans q))), if_neg (show ¬ s0 = 116 from fun q => k2 ((pz_b_eq (k := 116) (by decide)).mp (hs.symm.trans q))), if_neg (show ¬ s0 = 100 from fun q => k6 ((pz_b_eq (k := 100) (by decide)).mp (hs.symm.trans q)))]
    refine rx_fin hT ?_ J3 (cm_lo_u cm_lo_r (Nat.le_refl _)) H3 (by decide) (fun e => ?_)
    · rw [rk_is J2, jx_cV_e x3]
    · have s : s0 = 102 := by rw [hs, f102 e]; rfl
      refine ⟨?_, fun x hx => by cases hx⟩
      show mz_up cm (6 * cn) s0 (6 * cn) = 102
      rw [mz_up_s, s]
end RK
end JX
