/-! The other object's gaps. -/
section JX
def ce_gap (s : String) : Int32 := if s = eIO then 1 else if s = eUO then 2 else 3
section RD
variable {h : jx_H} {y : Nat} {S : Nat → Nat} {R : ro_R} {M : mm_T} {th : Int32}
theorem m_205 (I : ro_I h y S th R) (Q : ro_S S M) : ∃ h', jx_A 205 [.ref y] h = some (.inl (some (.int (nI (mz_su (fun c => (mm_gap M.2.2.2 c).toNat) 64)))), h') ∧ ro_I h' y S 0 R ∧ mz_eq y (y + 8) h h' := by
  obtain ⟨p, A, g, B, hF, ho⟩ := Q
  obtain ⟨h1, x1, I1, t1⟩ := ro_pth I 0
  have J1 : rq_J h1 y (ro_fs y 0 R) S M.1 M.2.1 p A g := ⟨I1.1, B⟩
  refine ⟨h1, ?_, I1, t1⟩
  rw [a_205, x1]
  refine mz_lp (fun i => jx_E 205 9 [.ref y, .int (nI (mz_su (fun c => (mm_gap M.2.2.2 c).toNat) i)), .int (nI i)] [] h1) 64 _ ?_ ?_ 0 (by decide)
  · rw [b_205_9, if_pos (by decide)]
  · intro i hi
    show jx_E 205 9 _ _ _ = jx_E 205 9 [.ref y, .int (nI (mz_su (fun c => (mm_gap M.2.2.2 c).toNat) i + (mm_gap M.2.2.2 i).toNat)), .int (nI (i + 1))] [] h1
    rw [b_205_9, if_neg (show ¬ 64 ≤ nI i from nI_ge (b := 64) hi (by decide)), ro_is I1, jx_cI_e (m_159 J1 hi), nI_1, nI_1, Int32.add_zero, mm_gap_cong ho hi]
    cases mm_gap M.2.2.2 i with
    | false => rw [if_pos (show bI false = 0 from rfl)]; rfl
    | true => rw [if_neg (by decide)]; rfl
theorem m_210 (I : ro_I h y S th R) (Q : ro_S S M) (a b : Int32) : rd_Q h y S R (jx_A 210 [.ref y, .int a, .int b] h) (sp_outl M a b) ce_gap (.int 0) := by
  obtain ⟨p, A, g, B, hF, ho⟩ := Q
  have J : rq_J h y (ro_fs y th R) S M.1 M.2.1 p A g := ⟨I.1, B⟩
  obtain ⟨c, qc, e⟩ := m_189 J a b
  obtain ⟨h1, x1, I1, t1⟩ := ro_pth I (zN (bd_o A g) c)
  have E : jx_A 210 [.ref y, .int a, .int b] h = if zN (bd_o A g) c ≤ 0 then (jx_cI jx_A 158 [.ref y, .int ((8 * a) + b)] h1 (fun y7 h6 => some (.inl (some (.int y7)), h6))) else (some (.inl (some (.int 0)), h1)) := by
    rw [a_210, ro_is I, jx_cI_e e, x1, ro_6 I1, ro_is I1]
  cases c with
  | none =>
    refine ⟨.inr eIO, h1, ⟨none, qc, rfl⟩, t1, ?_, I1⟩
    rw [E, if_neg (show ¬ zN (bd_o A g) none ≤ 0 from (by decide : ¬ (1 : Int32) ≤ 0))]
  | some c =>
    have hc := q_64 qc
    have gp := mm_gap_cong ho hc
    cases eg : mm_gap (bd_o A g) c with
    | false =>
      have z2 : zN (bd_o A g) (some c) = 2 := by unfold zN; dsimp only; rw [eg]; rfl
      rw [z2] at E I1
      exact ⟨.inr eUO, h1, ⟨some c, qc, Or.inl ⟨by rw [← gp]; exact eg, rfl⟩⟩, t1, by rw [E, if_neg (by decide)], I1⟩
    | true =>
      have z0 : zN (bd_o A g) (some c) = 0 := by unfold zN; dsimp only; rw [eg]; rfl
      rw [z0] at E I1
      have J1 : rq_J h1 y (ro_fs y 0 R) S M.1 M.2.1 p A g := ⟨I1.1, B⟩
      have ec : (8 * a) + b = nI c := by
        obtain ⟨i, j, rfl, -, rfl, -, rfl⟩ := qc
        exact mz_8 i j
      have nc : mm_nc (bd_o A g) c = mm_nc M.2.2.2 c := mz_su_cong fun s hs => by rw [mm_nb_cong ho hc hs]
      refine ⟨.inl (.int (nI (mm_nc M.2.2.2 c))), h1, ⟨some c, qc, Or.inr ⟨by rw [← gp]; exact eg, rfl⟩⟩, t1, ?_, I1⟩
      rw [E, if_pos (by decide), ec, jx_cI_e (m_158 J1 hc), nc]
end RD
end JX
