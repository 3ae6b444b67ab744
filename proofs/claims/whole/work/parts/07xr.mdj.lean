/-! The other object's counts. -/
section JX
section RD
variable {h : jx_H} {y : Nat} {S : Nat → Nat} {R : ro_R} {M : mm_T} {th : Int32}
theorem m_157M {fs : List Value} {p : Nat → Nat} {A : Nat → fg_T} {g : Nat → Option Nat} (J : rq_J h y fs S M.1 M.2.1 p A g) (hF : ∀ k, k < M.1 → A (p k) = M.2.2.1 k) (ho : ∀ c, c < 64 → bd_o A g c = M.2.2.2 c) (b : Bool) : jx_A 157 [.ref y, .int (zK b)] h = some (.inl (some (.int (nI (mm_pr M (bd_kd b))))), h) := by
  have e := m_157 J b
  rw [show mz_su (fun k => mm_es (bd_o A g) (bd_kd b) (A (p k))) M.1 = mm_pr M (bd_kd b) from mz_su_cong (fun j hj => by
    rw [mm_es_cong ho (rq_ok J hj).2.2.2.2, hF j hj])] at e
  exact e
theorem m_206 (I : ro_I h y S th R) (Q : ro_S S M) : ∃ h', jx_A 206 [.ref y] h = some (.inl (some (.int (nI (mm_pr M 1)))), h') ∧ ro_I h' y S 0 R ∧ mz_eq y (y + 8) h h' := by
  obtain ⟨p, A, g, B, hF, ho⟩ := Q
  obtain ⟨h1, x1, I1, t1⟩ := ro_pth I 0
  have J1 : rq_J h1 y (ro_fs y 0 R) S M.1 M.2.1 p A g := ⟨I1.1, B⟩
  exact ⟨h1, by rw [a_206, x1, ro_is I1, jx_cI_e (show jx_A 157 [.ref y, .int 1] h1 = _ from m_157M J1 hF ho true)]; rfl, I1, t1⟩
theorem m_207 (I : ro_I h y S th R) (Q : ro_S S M) : ∃ h', jx_A 207 [.ref y] h = some (.inl (some (.int (nI (mm_pr M 2)))), h') ∧ ro_I h' y S 0 R ∧ mz_eq y (y + 8) h h' := by
  obtain ⟨p, A, g, B, hF, ho⟩ := Q
  obtain ⟨h1, x1, I1, t1⟩ := ro_pth I 0
  have J1 : rq_J h1 y (ro_fs y 0 R) S M.1 M.2.1 p A g := ⟨I1.1, B⟩
  exact ⟨h1, by rw [a_207, x1, ro_is I1, jx_cI_e (show jx_A 157 [.ref y, .int (-1)] h1 = _ from m_157M J1 hF ho false)]; rfl, I1, t1⟩
theorem m_221 (I : ro_I h y S th R) : ∃ h', jx_A 221 [.ref y] h = some (.inl (some (.int 1)), h') ∧ ro_I h' y S 0 R ∧ mz_eq y (y + 8) h h' := by
  obtain ⟨h1, x1, I1, t1⟩ := ro_pth I 0
  exact ⟨h1, by rw [a_221, x1], I1, t1⟩
theorem m_199 (I : ro_I h y S th R) (Q : ro_S S M) (a b : Int32) : rd_Q h y S R (jx_A 199 [.ref y, .int a, .int b] h) (sp_emp M a b) ce_1 (.int 0) := by
  obtain ⟨p, A, g, B, hF, ho⟩ := Q
  obtain ⟨c, qc, e⟩ := m_149q a b h
  cases c with
  | none =>
    obtain ⟨h1, x1, I1, t1⟩ := m_139 I false
    refine ⟨.inr eIO, h1, ⟨none, qc, rfl⟩, t1, ?_, I1⟩
    rw [a_199, jx_cI_e e, ro_is I, jx_cI_e (show jx_A 139 [.ref y, .int (bI (none : Option Nat).isSome)] h = _ from x1), if_pos (show bI false = 0 from rfl)]
  | some c =>
    have hc := q_64 qc
    obtain ⟨h1, x1, I1, t1⟩ := m_139 I true
    have J1 : rq_J h1 y (ro_fs y 0 R) S M.1 M.2.1 p A g := ⟨I1.1, B⟩
    refine ⟨.inl (.int (bI (M.2.2.2 c).isNone)), h1, ⟨some c, qc, rfl⟩, t1, ?_, I1⟩
    obtain ⟨i, j, rfl, hi, rfl, hj, rfl⟩ := qc
    rw [a_199, jx_cI_e e, ro_is I, jx_cI_e (show jx_A 139 [.ref y, .int (bI (some (8 * i + j)).isSome)] h = _ from x1), if_neg (by decide), ro_0 I1, mz_161n i (by omega) j (by omega), rq_c J1 hc, ← ho _ hc]
    unfold bd_o
    cases eg : g (8 * i + j) with
    | none => rw [if_pos (show nI (rq_g none) = 0 by decide)]; rfl
    | some z =>
      obtain ⟨k, hk, rfl, -⟩ := rq_gs J1 hc eg
      have hn := rq_n J1
      have pk := rq_p J1 (show k < 20 by omega)
      have e0 : ¬ nI (p k + 1) = 0 := nI_ne0 (Nat.succ_pos _) (by omega)
      rw [if_neg (show ¬ nI (rq_g (some (p k))) = 0 from e0)]; rfl
end RD
end JX
