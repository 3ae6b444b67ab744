/-! texts. -/
section JX
section TX
variable {xs : List Int32} {C : cl_T} {h : jx_H}
theorem tx_frag (D : dr_I C.1) (K : dr_K C.1) {b k : Nat} (hk : k < C.1.1) {v : Value} {N0 : Nat} {v4 : Value} {s c : Nat} {o : Nat × (Nat → Nat)} (L : lo_I xs (cl_O C o) h) (hb : b ≤ h.2.1) (S : sI h s c (tx_f (C.1.2.2.1 k) 0)) (p : sp h.2.1 s c)
    (kk : ∀ (h : jx_H) (g2 g3 g4 : Value) (o : Nat × (Nat → Nat)), lo_I xs (cl_O C o) h → b ≤ h.2.1 → tx_V xs C b h (jx_E 185 105 [.ref 200, .int (nI (k + 1)), g2, g3, g4] [] h) v N0) :
    tx_V xs C b h (jx_E 185 146 [.ref 200, .int (nI k), .ref s, .int (nI 0), v4] [] h) v (92 + N0) := by
  have O := D.2.2.1 k hk
  have idk := D.2.2.2 k hk
  have ck := K k hk
  obtain ⟨al, ag⟩ := tx_a_l O.2.2.2.2
  refine tx_wd (tx_lp (C := C) (b := b) (γ := Nat) (fun j g h => jx_E 185 146 [.ref 200, .int (nI k), .ref g, .int (nI j), v4] [] h) 4 14 (36 + N0) v (fun j g h => lo_I xs (cl_O C o) h ∧ b ≤ h.2.1 ∧ ∃ c, sI h g c (tx_f (C.1.2.2.1 k) j) ∧ sp h.2.1 g c) ?_ ?_ 0 s h (by decide) ⟨L, hb, c, S, p⟩) (by omega)
  · rintro s h ⟨L, hb, c, S, p⟩
    show tx_V xs C b h (jx_E 185 146 _ _ _) _ _
    rw [b_185_146, if_pos (by decide)]
    -- behind the cell and the writing
    have go : ∀ (h : jx_H) (y2 : Int32), lo_I xs (cl_O C (mm_of (C.1.2.2.1 k))) h → b ≤ h.2.1 → sI h s c (tx_f (C.1.2.2.1 k) 4) → sp h.2.1 s c → ((fg_ce (C.1.2.2.1 k) = 0 ∧ y2 = -13) ∨ ∃ d, d < 64 ∧ fg_ce (C.1.2.2.1 k) = d + 1 ∧ y2 = nI d) → tx_V xs C b h (if (h).2.1 = (h).2.2.1 + jx_nc then (jx_is (jx_add h (8, [.null, .int 0, .int 0, .int 0]) 4) (h).2.1 8 (jx_cV jx_A 255 [.ref (h).2.1] (jx_add h (8, [.null, .int 0, .int 0, .int 0]) 4) (fun h5 => jx_is h5 (h).2.1 8 (jx_cA jx_A 257 [.ref (h).2.1, .ref s] h5 (fun a7 h6 => if 0 ≤ y2 then (if (h6).2.1 = (h6).2.2.1 + jx_nc then (jx_is (jx_add h6 (8, [.null, .int 0, .int 0, .int 0]) 4) (h6).2.1 8 (jx_cV jx_A 255 [.ref (h6).2.1] (jx_add h6 (8, [.null, .int 0, .int 0, .int 0]) 4) (fun h8 => jx_is h8 (h6).2.1 8 (jx_cA jx_A 257 [.ref (h6).2.1, .ref 32] h8 (fun a10 h9 => jx_is h9 a10 8 (jx_cA jx_A 259 [.ref a10, .int (y2 / 8)] h9 (fun a12 h11 => jx_is h11 a12 8 (jx_cA jx_A 259 [.ref a12, .int (y2 - y2 / 8 * 8)] h11 (fun a14 h13 => jx_is h13 a14 8 (jx_cA jx_A 260 [.ref a14] h13 (fun a16 h15 => jx_is h15 a7 8 (jx_cA jx_A 257 [.ref a7, .ref a16] h15 (fun a18 h17 => jx_is h17 a18 8 (jx_cA jx_A 260 [.ref a18] h17 (fun a20 h19 => jx_cI jx_A 184 [.ref 200, .int (nI (mm_of (C.1.2.2.1 k)).1), .ref a20] h19 (fun y22 h21 => if y22 = 0 then (some (.inl (some (.int 0)), h21)) else (jx_E 185 105 [.ref 200, .int (nI k + 1), .ref s, .int y2, v4] [] h21))))))))))))))))) else none) else (jx_is h6 a7 8 (jx_cA jx_A 257 [.ref a7, .ref 30] h6 (fun a24 h23 => jx_is h23 a24 8 (jx_cA jx_A 260 [.ref a24] h23 (fun a26 h25 => jx_cI jx_A 184 [.ref 200, .int (nI (mm_of (C.1.2.2.1 k)).1), .ref a26] h25 (fun y28 h27 => if y28 = 0 then (some (.inl (some (.int 0)), h27)) else (jx_E 185 105 [.ref 200, .int (nI k + 1), .ref s, .int y2, v4] [] h27)))))))))))) else none) v (34 + N0) := by
      intro h y2 L hb S p hy
      rw [if_pos L.2.2.2, jx_is_e jx_add_s]
      obtain ⟨h5, h6, bb, cap, e1, e2, e3, B6, b6, L6, j6⟩ := t_new L S p (by rw [tx_fl]; decide)
      rw [jx_cV_e e1, e2, jx_cA_e e3]
      refine tx_go (zb_j L j6 hb) (by omega) ?_
      have u6 : h.2.1 ≤ h6.2.1 := by obtain ⟨-, ⟨k, -, e, -⟩, -⟩ := j6; omega
      obtain ⟨g6, g7, g8, g9, g10⟩ := bu_a B6
      -- behind all letters
      have fin : ∀ (h2 : jx_H) (t : Nat) (y2 : Int32), lo_I xs (cl_O C (mm_of (C.1.2.2.1 k))) h2 → b ≤ h2.2.1 → sI h2 t (t + 1) (tx_a (C.1.2.2.1 k)) → 711 ≤ t → t + 1 < h2.2.1 → tx_V xs C b h2 (jx_cI jx_A 184 [.ref 200, .int (nI (mm_of (C.1.2.2.1 k)).1), .ref t] h2 (fun y22 h21 => if y22 = 0 then (some (.inl (some (.int 0)), h21)) else (jx_E 185 105 [.ref 200, .int (nI k + 1), .ref s, .int y2, v4] [] h21))) v (1 + N0) := by
        intro h2 t y2 L2 hb2 S2 t7 tl
        have l8 : (tx_a (C.1.2.2.1 k)).length ≤ 8 := by
          rw [al]
          show (bif fg_on (C.1.2.2.1 k) then 8 else 5) ≤ 8
          cases fg_on (C.1.2.2.1 k) <;> decide
        have sp1 := l_184 (C := cl_O C (mm_of (C.1.2.2.1 k))) L2 (ot := (mm_of (C.1.2.2.1 k)).2) S2 ⟨Or.inr ⟨t7, by omega⟩, Or.inr ⟨by omega, tl⟩⟩ l8 (by rw [al]; rfl) ag
        rw [al] at sp1
        refine tx_cI sp1 hb2 (by omega) (fun h3 L3 z3 => ?_)
        have up := zb_up (b := h2.2.1) z3
        rw [if_neg (by decide), nI_1]
        exact tx_wd (kk h3 _ _ _ _ L3 (by omega)) (by omega)
      rcases hy with ⟨c0, rfl⟩ | ⟨d, d64, c1, rfl⟩
      · rw [if_neg (by decide), bu_is B6]
        have S0 : sI h6 30 70 [] := s_K L6.1 rfl rfl (by decide) (by decide) (fun x h => by cases h) (by decide)
        obtain ⟨f1, f2, t, k1, k2, k3, S3, k4, k5, L3, y3⟩ := t_fin L6 B6 S0 ⟨Or.inl (by decide), Or.inl (by decide)⟩ (by omega) (by omega) (by rw [tx_fl]; decide)
        rw [jx_cA_e k1, k2, jx_cA_e k3]
        have ea : tx_a (C.1.2.2.1 k) = tx_f (C.1.2.2.1 k) 4 ++ [] := by unfold tx_a; rw [c0]
        refine tx_go (zb_y L6 y3 ⟨g6, by omega⟩ ⟨g7, by omega⟩ (by omega)) (by omega) ?_
        exact tx_wd (fin f2 t _ L3 (by omega) (by rw [ea]; exact S3) (by omega) k5) (by omega)
      · rw [if_pos (nI_pos' (by omega)), if_pos L6.2.2.2, jx_is_e jx_add_s, lg_div d d64, lg_mod d d64]
        obtain ⟨h8, h9, h11, h13, h15, bx, t, e4, e5, e6, e7, e8, e9, e10, e11, e12, S15, t1, t2, L15, j15, -⟩ := t_at L6 d64
        rw [jx_cV_e e4, e5, jx_cA_e e6, e7, jx_cA_e e8, e9, jx_cA_e e10, e11, jx_cA_e e12]
        have B15 := bu_j B6 j15
        rw [bu_is B15]
        have u15 : h6.2.1 ≤ h15.2.1 := by obtain ⟨-, ⟨k, -, e, -⟩, -⟩ := j15; omega
        refine tx_go (zb_j L6 j15 (by omega)) (by omega) ?_
        obtain ⟨f1, f2, t', k1, k2, k3, S3, k4, k5, L3, y3⟩ := t_fin L15 B15 S15 ⟨Or.inr ⟨by omega, by omega⟩, Or.inr ⟨by omega, by omega⟩⟩ (by omega) (by omega) (by
          have d1 := dg_len (d / 8)
          have d2 := dg_len (d % 8)
          rw [tx_fl, List.length_append, List.length_append]
          show 5 + (1 + _ + _) ≤ 34
          omega)
        rw [jx_cA_e k1, k2, jx_cA_e k3]
        have ea : tx_a (C.1.2.2.1 k) = tx_f (C.1.2.2.1 k) 4 ++ ([64] ++ dg (d / 8) ++ dg (d % 8)) := by unfold tx_a; rw [c1]
        refine tx_go (zb_y L15 y3 ⟨g6, by omega⟩ ⟨g7, by omega⟩ (by omega)) (by omega) ?_
        exact tx_wd (fin f2 t' _ L3 (by omega) (by rw [ea]; exact S3) (by omega) k5) (by omega)
    -- the cell, the writing
    have wr : ∀ (h : jx_H) (y2 : Int32), lo_I xs (cl_O C o) h → b ≤ h.2.1 → sI h s c (tx_f (C.1.2.2.1 k) 4) → sp h.2.1 s c → ((fg_ce (C.1.2.2.1 k) = 0 ∧ y2 = -13) ∨ ∃ d, d < 64 ∧ fg_ce (C.1.2.2.1 k) = d + 1 ∧ y2 = nI d) → ∃ h1, jx_A 158 [.ref 200, .int (nI k)] h = some (.inl (some (.int (nI (mm_of (C.1.2.2.1 k)).1))), h1) ∧ lo_I xs (cl_O C (mm_of (C.1.2.2.1 k))) h1 ∧ zb b 0 h h1 ∧ b ≤ h1.2.1 ∧ sI h1 s c (tx_f (C.1.2.2.1 k) 4) ∧ sp h1.2.1 s c := by
      intro h y2 L hb S p hy
      obtain ⟨h1, e1, L1, t1⟩ := l_158 L D hk
      have u1 : h1.2.1 = h.2.1 := by rw [t1.2]
      exact ⟨h1, e1, L1, zb_of (zz_0 t1) hb, by omega, s_z S p (zz_0 t1), by rw [u1]; exact p⟩
    have hce : (fg_ce (C.1.2.2.1 k) = 0) ∨ ∃ d, d < 64 ∧ fg_ce (C.1.2.2.1 k) = d + 1 := by
      have := O.2.2.2.2
      rcases Nat.eq_zero_or_pos (fg_ce (C.1.2.2.1 k)) with z | z
      · exact Or.inl z
      · exact Or.inr ⟨fg_ce (C.1.2.2.1 k) - 1, by omega, by omega⟩
    rcases hce with c0 | ⟨d, d64, c1⟩
    · have off : fg_on (C.1.2.2.1 k) = false := by unfold fg_on; rw [c0]; rfl
      refine tx_cI (l_140n L D (Or.inr ⟨k, hk, rfl, off⟩)) hb (by omega) (fun h1 L1 z1 => ?_)
      have up := zb_up (b := h.2.1) z1
      have hy : (fg_ce (C.1.2.2.1 k) = 0 ∧ (-13 : Int32) = -13) ∨ ∃ d, d < 64 ∧ fg_ce (C.1.2.2.1 k) = d + 1 ∧ (-13 : Int32) = nI d := Or.inl ⟨c0, rfl⟩
      obtain ⟨h2, e2, L2, z2, b2, S2, p2⟩ := wr h1 _ L1 (by omega) (s_z S p z1) (sp_up p up) hy
      rw [jx_cI_e e2]
      exact tx_wd (tx_go (B := 34 + N0) z2 (Nat.zero_le _) (go h2 _ L2 b2 S2 p2 hy)) (by omega)
    · refine tx_cI (l_140 L D hk c1) hb (by omega) (fun h1 L1 z1 => ?_)
      have up := zb_up (b := h.2.1) z1
      have hy : (fg_ce (C.1.2.2.1 k) = 0 ∧ nI d = -13) ∨ ∃ d', d' < 64 ∧ fg_ce (C.1.2.2.1 k) = d' + 1 ∧ nI d = nI d' := Or.inr ⟨d, d64, c1, rfl⟩
      obtain ⟨h2, e2, L2, z2, b2, S2, p2⟩ := wr h1 _ L1 (by omega) (s_z S p z1) (sp_up p up) hy
      rw [jx_cI_e e2]
      exact tx_wd (tx_go (B := 34 + N0) z2 (Nat.zero_le _) (go h2 _ L2 b2 S2 p2 hy)) (by omega)
  · rintro j s h B hj ⟨L, hb, c, S, p⟩ k2
    show tx_V xs C b h (jx_E 185 146 _ _ _) _ _
    rw [b_185_146, if_neg (show ¬ (4 : Int32) ≤ nI j from nI_ge hj (by decide)), if_pos L.2.2.2, jx_is_e jx_add_s]
    obtain ⟨h29, h30, bb, cap, e1, e2, e3, B30, b30, L30, j30⟩ := t_new L S p (by rw [tx_fl]; omega)
    rw [jx_cV_e e1, e2, jx_cA_e e3]
    refine tx_go (zb_j L j30 hb) (by omega) ?_
    have u30 : h.2.1 ≤ h30.2.1 := by obtain ⟨-, ⟨k, -, e, -⟩, -⟩ := j30; omega
    have l68 := l_68 L30 D (dr_pd D hk) hj
    rw [D.2.2.2 k hk] at l68
    refine (lo_isx L30 trivial).mpr (tx_cI l68 (by omega) (by omega) (fun h32 L32 z32 => ?_))
    have u32 := zb_up (b := h30.2.1) z32
    have B32 := bu_z B30 z32
    have S31 : sI h32 31 71 [48, 49, 50, 51, 52, 53, 54, 55, 56, 57, 97, 98, 99, 100, 101, 102] := s_K L32.1 rfl rfl (by decide) (by decide) (by decide) (by decide)
    have e16 := fg_at16 O j
    obtain ⟨x1, x2⟩ := hx_e _ e16
    have e249 := s_249 S31 (k := fg_at (C.1.2.2.1 k) j) (by show _ < 16; omega)
    rw [x1] at e249
    rw [s_is S31, jx_cI_e e249, bu_is B32]
    obtain ⟨f1, f2, s2, q1, q2, q3, S2, q4, q5, L2, y2⟩ := t_end L32 B32 x2 (by rw [tx_fl]; omega)
    rw [jx_cA_e q1, q2, jx_cA_e q3, nI_1]
    obtain ⟨g6, g7, -⟩ := bu_a B32
    refine tx_go (zb_y L32 y2 ⟨g6, by omega⟩ ⟨g7, by omega⟩ (by omega)) (by omega) ?_
    exact tx_wd (k2 s2 f2 ⟨L2, by omega, s2 + 1, by rw [tx_f1]; exact S2, Or.inr ⟨by omega, by omega⟩, Or.inr ⟨by omega, by omega⟩⟩) (by omega)
theorem l_185 (L : lo_I xs C h) (D : dr_I C.1) (K : dr_K C.1) : ∃ h' o, jx_A 185 [.ref 200] h = some (.inl (some (.int 1)), h') ∧ lo_I xs (cl_O C o) h' ∧ zz 5000 h h' := by
  rw [a_185]
  have C0 : cl_O C C.2.2.2.2.1 = C := rfl
  have key : tx_V xs C h.2.1 h (jx_E 185 2 [.ref 200, .int 0, jx_j, jx_j, jx_j] [] h) (.int 1) 5000 := by
    refine tx_wd (tx_lp (C := C) (b := h.2.1) (γ := Value × Value × Value) (fun i g h => jx_E 185 2 [.ref 200, .int (nI i), g.1, g.2.1, g.2.2] [] h) 8 161 3303 (.int 1) (fun _ _ h' => ∃ o, lo_I xs (cl_O C o) h' ∧ h.2.1 ≤ h'.2.1) ?_ ?_ 0 (jx_j, jx_j, jx_j) h (by decide) ⟨C.2.2.2.2.1, L, Nat.le_refl _⟩) (by decide)
    · rintro ⟨g2, g3, g4⟩ h1 ⟨o, L1, hb⟩
      show tx_V xs C h.2.1 h1 (jx_E 185 2 _ _ _) _ _
      rw [b_185_2, if_pos (by decide)]
      refine tx_wd (tx_lp (C := C) (b := h.2.1) (γ := Value × Value × Value) (fun i g h => jx_E 185 105 [.ref 200, .int (nI i), g.1, g.2.1, g.2.2] [] h) 30 110 3 (.int 1) (fun _ _ h' => ∃ o, lo_I xs (cl_O C o) h' ∧ h.2.1 ≤ h'.2.1) ?_ ?_ 0 (g2, g3, g4) h1 (by decide) ⟨o, L1, hb⟩) (by decide)
      · rintro ⟨g2, g3, g4⟩ h2 ⟨o, L, hb⟩
        show tx_V xs C h.2.1 h2 (jx_E 185 105 _ _ _) _ _
        rw [b_185_105, if_pos (by decide)]
        refine tx_cI (l_157n L (y := 8) (by decide)) hb (by decide) (fun h3 L3 z3 => ?_)
        have u3 := zb_up (b := h2.2.1) z3
        rw [if_pos rfl]
        refine tx_cI (l_157n L3 (y := -1) (by decide)) (by omega) (by decide) (fun h4 L4 z4 => ?_)
        have u4 := zb_up (b := h3.2.1) z4
        rw [if_pos rfl]
        refine tx_cI (l_158n L4 D (dr_m1 D)) (by omega) (by decide) (fun h5 L5 z5 => ?_)
        rw [if_pos rfl]
        exact tx_rt L5 _
      · rintro i ⟨g2, g3, g4⟩ h2 B hi ⟨o, L, hb⟩ kk
        show tx_V xs C h.2.1 h2 (jx_E 185 105 _ _ _) _ _
        rw [b_185_105, if_neg (show ¬ (30 : Int32) ≤ nI i from nI_ge hi (by decide))]
        refine (lo_isx L trivial).mpr ?_
        by_cases hk : i < C.1.1
        · refine tx_cI (l_65 L D hk) hb (by omega) (fun h3 L3 z3 => ?_)
          have u3 := zb_up (b := h2.2.1) z3
          have S0 : sI h3 30 70 [] := s_K L3.1 rfl rfl (by decide) (by decide) (fun x h => by cases h) (by decide)
          rw [if_neg (by decide), if_pos L3.2.2.2, jx_is_e jx_add_s]
          obtain ⟨h9, h10, bb, cap, e1, e2, e3, B10, b10, L10, j10⟩ := t_new L3 S0 ⟨Or.inl (by decide), Or.inl (by decide)⟩ (by decide)
          rw [jx_cV_e e1, e2, jx_cA_e e3]
          refine tx_go (zb_j L3 j10 (by omega)) (by omega) ?_
          have u10 : h3.2.1 ≤ h10.2.1 := by obtain ⟨-, ⟨k, -, e, -⟩, -⟩ := j10; omega
          have l66 := l_66 L10 D (dr_pd D hk)
          rw [D.2.2.2 i hk] at l66
          refine (lo_isx L10 trivial).mpr (tx_cI l66 (by omega) (by omega) (fun h12 L12 z12 => ?_))
          have u12 := zb_up (b := h10.2.1) z12
          have B12 := bu_z B10 z12
          have ck := K i hk
          rw [bu_is B12]
          obtain ⟨f1, f2, s2, q1, q2, q3, S2, q4, q5, L2, y2⟩ := t_end L12 B12 (x := fg_co (C.1.2.2.1 i)) (by omega) (by decide)
          rw [jx_cA_e q1, q2, jx_cA_e q3]
          obtain ⟨g6, g7, -⟩ := bu_a B12
          refine tx_go (zb_y L12 y2 ⟨g6, by omega⟩ ⟨g7, by omega⟩ (by omega)) (by omega) ?_
          exact tx_wd (tx_frag D K hk (N0 := B) L2 (by omega) (show sI f2 s2 (s2 + 1) (tx_f (C.1.2.2.1 i) 0) from S2) ⟨Or.inr ⟨by omega, by omega⟩, Or.inr ⟨by omega, by omega⟩⟩ (fun h5 g2 g3 g4 o5 L5 b5 => kk (g2, g3, g4) h5 ⟨o5, L5, b5⟩)) (by omega)
        · have n20 := D.2.1
          refine tx_cI (l_65n L D (v := nI i) (fun k hk' q => by have hk' : k < C.1.1 := hk'; have := (nI_eq (by omega) (by omega)).mp q; omega)) hb (by omega) (fun h3 L3 z3 => ?_)
          have u3 := zb_up (b := h2.2.1) z3
          rw [if_pos rfl, nI_1]
          exact tx_wd (kk (g2, g3, g4) h3 ⟨o, L3, by omega⟩) (by omega)
    · rintro i ⟨g2, g3, g4⟩ h1 B hi ⟨o, L, hb⟩ kk
      show tx_V xs C h.2.1 h1 (jx_E 185 2 _ _ _) _ _
      rw [b_185_2, if_neg (show ¬ (8 : Int32) ≤ nI i from nI_ge hi (by decide))]
      exact tx_row D K hi L hb (fun h2 s g4 o2 L2 b2 => kk (.ref s, .int (nI 8), g4) h2 ⟨o2, L2, b2⟩)
  obtain ⟨h', o, e, L', z⟩ := key
  exact ⟨h', o, e, L', z⟩
end TX
end JX
