/-! The other object reads a whole command. -/
section JX
theorem mz_6 : ∀ k, k < 60 → (6 : Int32) * nI k = nI (6 * k) := by decide +kernel
theorem nIp2 (b : Nat) : nI b + 2 = nI (b + 2) := nI_add b 2
theorem nIp3 (b : Nat) : nI b + 3 = nI (b + 3) := nI_add b 3
section RK
variable {xs : List Int32} {h0 h : jx_H} {y : Nat} {S : Nat → Nat} {th : Int32} {R : ro_R} {po cn : Nat} {mf : Bool} {cm : Nat → Int32} {T : pz_R (List Nat)} {l acc : List Nat}
/-- what has been read is stored -/
theorem rx_vs {m : Nat} {as : List Value} (H : rx_V h0 y S th R cm cn T mf l acc (jx_A m as h)) {k : Nat} (hk : k < 360) :
    ∃ z v h' po' mf', (∀ F : jx_H → jx_R, jx_cI jx_A m as h (fun w h2 => jx_st h2 (y + 7) 100 (nI k) (.int w) F) = F h') ∧ rk_J h0 h' y S th R po' mf' (mz_up cm k z) cn ∧ (mf' = false → mf = false ∧ z = nI v ∧ v < 128) ∧ rs_S (pz_c R.2.2.2.2.1 (ro_il R)) T po' mf' l (acc ++ [v]) := by
  obtain ⟨z, v, h1, po', mf', x, J1, q, H1⟩ := H
  obtain ⟨h2, x2, J2⟩ := rk_pc J1 hk z
  exact ⟨z, v, h2, po', mf', fun F => by rw [jx_cI_e x, x2], J2, q, H1⟩
/-- four digits of a new fragment -/
theorem rx_139 (J : rk_J h0 h y S th R po mf cm cn) (hL : ro_il R ≤ 60) (ht : ∀ i, i < ro_il R → R.2.2.2.2.1 i < 65536) {b : Nat} (hb : b + 5 < 360) (H : rs_S (pz_c R.2.2.2.2.1 (ro_il R)) T po mf [104, 104, 104, 104] acc) (v2 v3 : Int32) :
    ∃ z1 w1 z2 w2 z3 w3 z4 w4 h' po' mf', jx_E 232 139 [.ref y, .int (nI b), .int v2, .int v3, .int 0] [] h = some (.inl none, h') ∧ rk_J h0 h' y S th R po' mf' (mz_up (mz_up (mz_up (mz_up cm (b + 2) z1) (b + 3) z2) (b + 4) z3) (b + 5) z4) cn ∧
      (mf' = false → mf = false ∧ (z1 = nI w1 ∧ w1 < 128) ∧ (z2 = nI w2 ∧ w2 < 128) ∧ (z3 = nI w3 ∧ w3 < 128) ∧ (z4 = nI w4 ∧ w4 < 128)) ∧ rs_S (pz_c R.2.2.2.2.1 (ro_il R)) T po' mf' [] (acc ++ [w1] ++ [w2] ++ [w3] ++ [w4]) := by
  obtain ⟨z1, w1, h1, po1, mf1, x1, J1, q1, H1⟩ := rx_vs (rx_d J hL ht true H) (k := b + 2) (by omega)
  obtain ⟨z2, w2, h2, po2, mf2, x2, J2, q2, H2⟩ := rx_vs (rx_d J1 hL ht true H1) (k := b + 3) (by omega)
  obtain ⟨z3, w3, h3, po3, mf3, x3, J3, q3, H3⟩ := rx_vs (rx_d J2 hL ht true H2) (k := b + 4) (by omega)
  obtain ⟨z4, w4, h4, po4, mf4, x4, J4, q4, H4⟩ := rx_vs (rx_d J3 hL ht true H3) (k := b + 5) (by omega)
  refine ⟨z1, w1, z2, w2, z3, w3, z4, w4, h4, po4, mf4, ?_, J4, fun e => ?_, H4⟩
  · have e0 : (nI b + 2) + 0 = nI (b + 2) := by rw [Int32.add_zero]; exact nIp2 b
    have e1 : (nI b + 2) + (0 + 1) = nI (b + 3) := by rw [nIp2]; exact nI_add (b + 2) 1
    have e2 : (nI b + 2) + (0 + 1 + 1) = nI (b + 4) := by rw [nIp2]; exact nI_add (b + 2) 2
    have e3 : (nI b + 2) + (0 + 1 + 1 + 1) = nI (b + 5) := by rw [nIp2]; exact nI_add (b + 2) 3
    have s : ∀ (t : Int32) (k : Nat) (h h' : jx_H), ¬ 4 ≤ t → (nI b + 2) + t = nI k → (∀ F, jx_gA h y 8 15 F = F (y + 7)) → (∀ F, jx_is h y 8 F = F) → (∀ F : jx_H → jx_R, jx_cI jx_A 230 [.ref y, .int (zL true)] h (fun w h2 => jx_st h2 (y + 7) 100 (nI k) (.int w) F) = F h') → jx_E 232 139 [.ref y, .int (nI b), .int v2, .int v3, .int t] [] h = jx_E 232 139 [.ref y, .int (nI b), .int v2, .int v3, .int (t + 1)] [] h' := by
      intro t k h h' t4 ek e15 eis ex
      rw [b_232_139, if_neg t4, e15, eis, ek]
      exact ex _
    rw [s 0 (b + 2) h h1 (by decide) e0 (rk_15 J) (rk_is J) x1, s (0 + 1) (b + 3) h1 h2 (by decide) e1 (rk_15 J1) (rk_is J1) x2, s (0 + 1 + 1) (b + 4) h2 h3 (by decide) e2 (rk_15 J2) (rk_is J2) x3, s (0 + 1 + 1 + 1) (b + 5) h3 h4 (by decide) e3 (rk_15 J3) (rk_is J3) x4, b_232_139, if_pos (by decide)]
  · obtain ⟨a4, b4⟩ := q4 e
    obtain ⟨a3, b3⟩ := q3 a4
    obtain ⟨a2, b2⟩ := q2 a3
    obtain ⟨a1, b1⟩ := q1 a2
    exact ⟨a1, b1, b2, b3, b4⟩
/-- the colour of a new fragment -/
theorem rx_103 (J : rk_J h0 h y S th R po mf cm cn) (hL : ro_il R ≤ 60) (ht : ∀ i, i < ro_il R → R.2.2.2.2.1 i < 65536) {b : Nat} (hb : b + 5 < 360) (H : rs_S (pz_c R.2.2.2.2.1 (ro_il R)) T po mf (99 :: l) acc) (v2 : Int32) (v4 : Value) :
    ∃ z v h' po' mf', (jx_cI jx_A 227 [.ref y, .int 0] h (fun y32 h31 => jx_gI h31 y 8 12 (fun x34 => if x34 = 0 then (jx_cI jx_A 150 [.int y32] h31 (fun y36 h35 => if y36 = 0 then (jx_E 232 103 [.ref y, .int (nI b), .int v2, .int y32, v4] [.int 1, .ref y] h35) else (jx_E 232 103 [.ref y, .int (nI b), .int v2, .int y32, v4] [.int 0, .ref y] h35))) else (jx_E 232 103 [.ref y, .int (nI b), .int v2, .int y32, v4] [.int 1, .ref y] h31)))) = jx_E 232 139 [.ref y, .int (nI b), .int v2, .int z, .int 0] [] h' ∧
      rk_J h0 h' y S th R po' mf' (mz_up cm (b + 1) z) cn ∧ (mf' = false → mf = false ∧ z = nI v ∧ v < 128) ∧ rs_S (pz_c R.2.2.2.2.1 (ro_il R)) T po' mf' l (acc ++ [v]) := by
  have e27 : jx_A 227 [.ref y, .int 0] h = _ := m_227 J hL ht 0 (by decide)
  rw [Nat.add_zero] at e27
  have bad : ∃ h', jx_E 232 103 [.ref y, .int (nI b), .int v2, .int (pz_b (pz_c R.2.2.2.2.1 (ro_il R) po)), v4] [.int 1, .ref y] h = jx_E 232 139 [.ref y, .int (nI b), .int v2, .int (pz_b (pz_c R.2.2.2.2.1 (ro_il R) po)), .int 0] [] h' ∧ rk_J h0 h' y S th R po true (mz_up cm (b + 1) (pz_b (pz_c R.2.2.2.2.1 (ro_il R) po))) cn := by
    obtain ⟨h2, x2, J2⟩ := rk_p12 J true
    obtain ⟨h3, x3, J3⟩ := rk_p11 J2 (v := po) J2.2.2
    obtain ⟨h4, x4, J4⟩ := rk_pc J3 (k := b + 1) (by omega) (pz_b (pz_c R.2.2.2.2.1 (ro_il R) po))
    refine ⟨h4, ?_, J4⟩
    rw [b_232_103, if_pos (Or.inr rfl), show (1 : Int32) = bI true from rfl, x2, rk_11 J2, rk_12 J2, if_neg (show ¬ bI true = 0 by decide), Int32.add_zero, x3, rk_15 J3, show nI b + bI true = nI (b + 1) from nI_1 b, x4]
  rw [jx_cI_e e27, rk_12 J]
  cases mf with
  | true =>
    obtain ⟨h1, x1, J1⟩ := bad
    refine ⟨_, 0, h1, po, true, ?_, J1, fun q => (by cases q), H⟩
    rw [if_neg (show ¬ bI true = 0 by decide)]
    exact x1
  | false =>
    have n := rs_n _ H
    rw [pz_99] at n
    rw [if_pos (show bI false = 0 from rfl), jx_cI_e (m_150b _ h)]
    by_cases c : 97 ≤ pz_c R.2.2.2.2.1 (ro_il R) po ∧ pz_c R.2.2.2.2.1 (ro_il R) po ≤ 102
    · rw [if_pos c] at n
      have lt : po < ro_il R := by
        by_cases z : po < ro_il R
        · exact z
        · rw [pz_c_ge (by omega)] at c; omega
      obtain ⟨h2, x2, J2⟩ := rk_p12 J false
      obtain ⟨h3, x3, J3⟩ := rk_p11 J2 (v := po + 1) lt
      obtain ⟨h4, x4, J4⟩ := rk_pc J3 (k := b + 1) (by omega) (pz_b (pz_c R.2.2.2.2.1 (ro_il R) po))
      refine ⟨_, pz_c R.2.2.2.2.1 (ro_il R) po, h4, po + 1, false, ?_, J4, fun _ => ⟨rfl, pz_b_lt (by omega), by omega⟩, n⟩
      rw [if_pos c, if_neg (by decide), b_232_103, if_pos (Or.inl rfl), show (Value.int 0) = Value.int (bI false) from rfl, x2, rk_11 J2, rk_12 J2, if_pos (show bI false = 0 from rfl), nI_1, x3, rk_15 J3, nI_1, x4]
    · rw [if_neg c] at n
      obtain ⟨h1, x1, J1⟩ := bad
      refine ⟨_, 0, h1, po, true, ?_, J1, fun q => (by cases q), n⟩
      rw [if_neg c, if_pos rfl]
      exact x1
end RK
end JX
