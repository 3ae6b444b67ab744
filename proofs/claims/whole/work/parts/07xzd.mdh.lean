/-! The other object reads all commands. -/
section JX
theorem pz_pt_le {c : Nat → Nat} {k po : Nat} {q : Nat × Nat} (h : pz_pt c k po = .inr q) : po ≤ q.2 := by
  unfold pz_pt at h
  split at h
  · unfold pz_nm at h
    split at h
    · cases h
    · split at h
      · cases h; exact Nat.le_add_right _ _
      · cases h; exact Nat.le_add_right _ _
  · unfold pz_sg at h
    split at h
    · cases h; exact Nat.le_add_right _ _
    · cases h
theorem pz_fm_le {c : Nat → Nat} : ∀ (l : List Nat) {po : Nat} {r : List Nat × Nat}, pz_fm c l po = .inr r → po ≤ r.2
  | [], po, r, h => by
    have h : (Sum.inr ([], po) : pz_R (List Nat)) = .inr r := h
    cases h; exact Nat.le_refl _
  | k :: l, po, r, h => by
    rw [pz_fm_c] at h
    split at h
    · cases h
    · rename_i q e
      split at h
      · cases h
      · rename_i r' e2
        cases h
        have b := pz_fm_le l e2
        exact Nat.le_trans (pz_pt_le e) b
theorem pz_C_4 {c : Nat → Nat} {po : Nat} {q : (Nat × List Nat) × Nat} (h : pz_C c po = .inr q) : po + 4 ≤ q.2 := by
  unfold pz_C at h
  split at h
  · rename_i e
    split at h
    · cases h
    · rename_i r e2
      cases h
      have := pz_fm_le _ e2
      have := (pz_W_len _ (pz_kw_7 c po)).1
      exact Nat.le_trans (by omega) (pz_fm_le _ e2)
  · cases h
section RK
variable {xs : List Int32} {h0 h : jx_H} {y : Nat} {S : Nat → Nat} {th : Int32} {R : ro_R} {po cn : Nat} {mf : Bool} {cm : Nat → Int32}
/-- all commands have been read, or up to a fault -/
def rx_A (h0 : jx_H) (y : Nat) (S : Nat → Nat) (th : Int32) (R : ro_R) (cm : Nat → Int32) (i : Nat) (v1 : Value) (r : Nat ⊕ List (Nat × List Nat)) (X : jx_R) : Prop :=
  ∃ h' po' mf' cm' cn', X = jx_E 234 53 [.ref y, v1] [] h' ∧ rk_J h0 h' y S th R po' mf' cm' cn' ∧ cm_lo (6 * i) cm cm' ∧ match r with
    | .inl e => po' = e ∧ (mf' = true ∨ (mf' = false ∧ po' < ro_il R))
    | .inr l => mf' = false ∧ po' = ro_il R ∧ cn' = i + l.length ∧ cn' ≤ 12 ∧ ∀ j q, l[j]? = some q → cm_r cm' (6 * (i + j)) q ∧ q.1 < 7 ∧ ∀ x, x ∈ q.2 → x < 128
theorem rx_all (K : mz_K xs h0) (hL : ro_il R ≤ 60) (ht : ∀ i, i < ro_il R → R.2.2.2.2.1 i < 65536) (v1 : Value) : ∀ (f i po : Nat) (cm : Nat → Int32) (h : jx_H), f + i = 12 → 5 * i ≤ po → rk_J h0 h y S th R po false cm i →
    rx_A h0 y S th R cm i v1 (pz_A (pz_c R.2.2.2.2.1 (ro_il R)) (ro_il R) f po) (jx_cV jx_A 232 [.ref y] h (fun h8 => jx_E 234 19 [.ref y, v1] [] h8)) := by
  intro f
  induction f with
  | zero =>
    intro i po cm h hf hi J
    have lL := J.2.2
    have pe : po = ro_il R := by omega
    have c7 : pz_c R.2.2.2.2.1 (ro_il R) po = 70000 := pz_c_ge (by omega)
    have pc : pz_C (pz_c R.2.2.2.2.1 (ro_il R)) po = .inl po := by
      have kw : pz_kw (pz_c R.2.2.2.2.1 (ro_il R)) po = 5 := by
        unfold pz_kw
        rw [c7, if_neg (by decide), if_neg (by decide), if_neg (by decide), if_neg (by decide), if_neg (by decide)]
      have lt : pz_lt (pz_c R.2.2.2.2.1 (ro_il R)) (pz_W 5) po = 0 := if_neg (by rw [c7]; decide)
      unfold pz_C
      rw [kw, lt]
      rfl
    obtain ⟨h1, po1, mf1, cm1, x1, J1, lo, q⟩ := m_232 K J hL ht (by omega)
    rw [pc] at q
    obtain ⟨rfl, rfl⟩ := q
    refine ⟨h1, _, true, cm1, i + 1, ?_, J1, lo, rfl, Or.inl rfl⟩
    rw [jx_cV_e x1, b_234_19, rk_12 J1, if_neg (show ¬ bI true = 0 by decide)]
  | succ f ih =>
    intro i po cm h hf hi J
    obtain ⟨h1, po1, mf1, cm1, x1, J1, lo, q⟩ := m_232 K J hL ht (by omega)
    rw [pz_A_s]
    cases e : pz_C (pz_c R.2.2.2.2.1 (ro_il R)) po with
    | inl e2 =>
      rw [e] at q
      obtain ⟨rfl, rfl⟩ := q
      refine ⟨h1, _, true, cm1, i + 1, ?_, J1, lo, rfl, Or.inl rfl⟩
      rw [jx_cV_e x1, b_234_19, rk_12 J1, if_neg (show ¬ bI true = 0 by decide)]
    | inr r =>
      rw [e] at q
      obtain ⟨rfl, rfl, row, r7, r128⟩ := q
      have p4 := pz_C_4 e
      have lL := J1.2.2
      have e27 : jx_A 227 [.ref y, .int 0] h1 = _ := m_227 J1 hL ht 0 (by decide)
      rw [Nat.add_zero] at e27
      have q59 : pz_b (pz_c R.2.2.2.2.1 (ro_il R) r.2) = 59 ↔ pz_c R.2.2.2.2.1 (ro_il R) r.2 = 59 := pz_b_eq (k := 59) (by decide)
      dsimp only
      by_cases z : r.2 = ro_il R
      · rw [if_pos z]
        refine ⟨h1, r.2, false, cm1, i + 1, ?_, J1, lo, rfl, z, rfl, by omega, fun j q hj => ?_⟩
        · rw [jx_cV_e x1, b_234_19, rk_12 J1, if_pos (show bI false = 0 from rfl), rk_is J1, jx_cI_e e27, if_neg (fun w => by have := q59.mp w; rw [pz_c_ge (by omega)] at this; omega)]
        · match j, hj with
          | 0, hj => cases hj; exact ⟨row, r7, r128⟩
          | j + 1, hj => cases hj
      · rw [if_neg z]
        by_cases c : pz_c R.2.2.2.2.1 (ro_il R) r.2 = 59
        · rw [if_pos c]
          obtain ⟨h2, x2, J2⟩ := rk_p11 J1 (v := r.2 + 1) (by omega)
          obtain ⟨h3, po3, mf3, cm3, cn3, x3, J3, lo3, q3⟩ := ih (i + 1) (r.2 + 1) cm1 h2 (by omega) (by omega) J2
          have X : jx_cV jx_A 232 [.ref y] h (fun h8 => jx_E 234 19 [.ref y, v1] [] h8) = jx_E 234 53 [.ref y, v1] [] h3 := by
            rw [jx_cV_e x1, b_234_19, rk_12 J1, if_pos (show bI false = 0 from rfl), rk_is J1, jx_cI_e e27, if_pos (q59.mpr c), rk_11 J1, nI_1, x2, rk_is J2]
            exact x3
          have lo' : cm_lo (6 * i) cm cm3 := fun j hj => (lo3 j (by omega)).trans (lo j hj)
          refine ⟨h3, po3, mf3, cm3, cn3, X, J3, lo', ?_⟩
          cases e2 : pz_A (pz_c R.2.2.2.2.1 (ro_il R)) (ro_il R) f (r.2 + 1) with
          | inl e3 => rw [e2] at q3; exact q3
          | inr l =>
            rw [e2] at q3
            obtain ⟨a1, a2, a3, a4, a5⟩ := q3
            refine ⟨a1, a2, by rw [a3]; simp; omega, a4, fun j q hj => ?_⟩
            match j, hj with
            | 0, hj =>
              cases hj
              refine ⟨?_, r7, r128⟩
              have same : ∀ k, k < 6 → cm3 (6 * i + k) = cm1 (6 * i + k) := fun k hk => lo3 _ (by omega)
              have s0 := same 0 (by decide)
              have s1 := same 1 (by decide)
              have s2 := same 2 (by decide)
              have s3 := same 3 (by decide)
              have s4 := same 4 (by decide)
              have s5 := same 5 (by decide)
              rw [Nat.add_zero] at s0
              unfold cm_r at row ⊢
              rw [Nat.add_zero, s0, s1, s2, s3, s4, s5]
              exact row
            | j + 1, hj =>
              have := a5 j q hj
              rw [show i + 1 + j = i + (j + 1) by omega] at this
              exact this
        · rw [if_neg c]
          refine ⟨h1, r.2, false, cm1, i + 1, ?_, J1, lo, rfl, Or.inr ⟨rfl, by omega⟩⟩
          rw [jx_cV_e x1, b_234_19, rk_12 J1, if_pos (show bI false = 0 from rfl), rk_is J1, jx_cI_e e27, if_neg (fun w => c (q59.mp w))]
end RK
end JX
