/-! The other object places guesses. -/
section JX
def no_pgc (M : mm_T) (a b : Int32) (e : Int32) : Prop := (e = 1 ∧ no_pg M a b eIO) ∨ (e = 2 ∧ no_pg M a b eUO) ∨ (e = 3 ∧ no_pg M a b eNS)
section RD
variable {h : jx_H} {y : Nat} {S : Nat → Nat} {R : ro_R} {M : mm_T}
theorem mm_gr_F {n : Nat} {p : Nat → Nat} {A F : Nat → fg_T} {o o' : Nat → Option fg_T} (hF : ∀ k, k < n → A (p k) = F k) (ho : ∀ c, c < 64 → o c = o' c) {c : Nat} (hc : c < 64) {r : Int32} {t : Option Nat} (H : mm_gr n (fun k => A (p k)) (fun k => mm_tw o (A (p k)) c) r t) : mm_gr n F (fun k => mm_tw o' (F k) c) r t := by
  have tw : ∀ k, k < n → mm_tw o (A (p k)) c = mm_tw o' (F k) c := fun k hk => by rw [hF k hk, mm_tw_cong ho hc]
  cases t with
  | none =>
    intro k hk q
    refine H k hk ⟨by show fg_on (A (p k)) = false; rw [hF k hk]; exact q.1, ?_⟩
    rw [mm_rk_cong (F' := F) (tw' := fun k => mm_tw o' (F k) c) (fun k hk => hF k hk) (fun k hk => tw k hk) hk]
    exact q.2
  | some k =>
    obtain ⟨hk, hl, hr⟩ := H
    refine ⟨hk, by rw [← hF k hk]; exact hl, ?_⟩
    rw [← mm_rk_cong (F := fun k => A (p k)) (tw := fun k => mm_tw o (A (p k)) c) (fun k hk => hF k hk) (fun k hk => tw k hk) hk]
    exact hr
theorem m_190 (I : ro_I h y S 0 R) (Q : ro_S S M) (O : mm_ok M) (a b : Int32) : rd_C h y S R (jx_A 190 [.ref y, .int a, .int b] h) (ok_pg M a b) (no_pgc M a b) id := by
  have Q0 := Q
  obtain ⟨p, A, g, B, hF, ho⟩ := Q
  have J : rq_J h y (ro_fs y 0 R) S M.1 M.2.1 p A g := ⟨I.1, B⟩
  have hn := rq_n J
  obtain ⟨cc, qc, e⟩ := m_189 J a b
  obtain ⟨h1, x1, I1, t1⟩ := ro_pth I (zN (bd_o A g) cc)
  have E : jx_A 190 [.ref y, .int a, .int b] h = if zN (bd_o A g) cc ≤ 0 then (jx_cI jx_A 187 [.ref y, .int ((8 * a) + b)] h1 (fun y7 h6 => jx_E 190 31 [.ref y, .int a, .int b, jx_j] [.int y7] h6)) else (jx_E 190 31 [.ref y, .int a, .int b, jx_j] [.int (-1)] h1) := by
    rw [a_190, rq_is J, jx_cI_e e, x1, ro_6 I1, ro_is I1]
  have fail : ∀ k : Int32, zN (bd_o A g) cc = k → ¬ k ≤ 0 → no_pgc M a b k → rd_C h y S R (jx_A 190 [.ref y, .int a, .int b] h) (ok_pg M a b) (no_pgc M a b) id := by
    intro k hk h0 hno
    rw [hk] at E I1
    obtain ⟨h2, x2, I2, t2⟩ := m_138 I1 k
    refine Or.inr ⟨k, h2, hno, ?_, I2, mz_eq_tr t1 t2⟩
    rw [E, if_neg h0, b_190_31, if_neg (show ¬ (0 : Int32) ≤ -1 by decide), ro_6 I1, if_neg h0, ro_6 I1, ro_is I1, jx_cI_e x2]
  cases cc with
  | none => exact fail 1 rfl (by decide) (Or.inl ⟨rfl, Or.inl ⟨qc, rfl⟩⟩)
  | some c =>
    have hc := q_64 qc
    have gp := mm_gap_cong ho hc
    cases eg : mm_gap (bd_o A g) c with
    | false => exact fail 2 (by unfold zN; dsimp only; rw [eg]; rfl) (by decide) (Or.inr (Or.inl ⟨rfl, Or.inr ⟨c, qc, Or.inl ⟨by rw [← gp]; exact eg, rfl⟩⟩⟩))
    | true =>
      have gM : mm_gap M.2.2.2 c = true := by rw [← gp]; exact eg
      have z0 : zN (bd_o A g) (some c) = 0 := by unfold zN; dsimp only; rw [eg]; rfl
      rw [z0] at E I1
      have J1 : rq_J h1 y (ro_fs y 0 R) S M.1 M.2.1 p A g := ⟨I1.1, B⟩
      obtain ⟨o, hgr, x7⟩ := m_187 J1 (mm_okA O hF) hc
      have hgr' : mm_gr M.1 M.2.2.1 (mm_tws M c) 0 o := mm_gr_F hF ho hc hgr
      have ec : (8 * a) + b = nI c := by
        obtain ⟨i, j, rfl, -, rfl, -, rfl⟩ := qc
        exact mz_8 i j
      rw [if_pos (by decide), ec, jx_cI_e x7] at E
      cases o with
      | none =>
        obtain ⟨h2, x2, I2, t2⟩ := m_138 I1 3
        refine Or.inr ⟨3, h2, Or.inr (Or.inr ⟨rfl, Or.inr ⟨c, qc, Or.inr ⟨gM, hgr', rfl⟩⟩⟩), ?_, I2, mz_eq_tr t1 t2⟩
        rw [E, b_190_31, if_neg (show ¬ (0 : Int32) ≤ -1 by decide), ro_6 I1, if_pos (by decide), ro_is I1, jx_cI_e x2]
      | some k =>
        have hk : k < M.1 := hgr.1
        have pk := rq_p J (show k < 20 by omega)
        have gn : g c = none := by
          have := mm_gap_none eg
          unfold bd_o at this
          cases z : g c with
          | none => rfl
          | some i => rw [z] at this; cases this
        obtain ⟨h2, S2, x2, I2, ⟨A', g', B2, hF2, ho2⟩, t2⟩ := m_188 I1 Q0 B hF ho hk hc hgr.2.1 gn
        have J2 : rq_J h2 y (ro_fs y 0 R) S2 M.1 M.2.1 p A' g' := ⟨I2.1, B2⟩
        have ide : fg_id (A' (p k)) = fg_id (M.2.2.1 k) := by
          rw [hF2 k hk]
          show fg_id (mz_up M.2.2.1 k (mm_gf M k c) k) = _
          rw [mz_up_s]; rfl
        refine Or.inl ⟨_, mm_pg M k c, h2, S2, ⟨c, k, qc, gM, hgr', rfl, rfl⟩, ?_, I2, ⟨p, A', g', B2, hF2, ho2⟩, mz_eq_tr t1 t2⟩
        rw [E, b_190_31, if_pos (show (0 : Int32) ≤ nI (p k) from nI_pos' (by omega)), ro_is I1, ec, jx_cV_e x2, rq_is J2, jx_cI_e (m_143 J2 hk), ide]
end RD
end JX
