/-! The other object's guesses by rank. -/
section JX
section RD
variable {h : jx_H} {y : Nat} {S : Nat → Nat} {R : ro_R} {M : mm_T} {th : Int32} {fs : List Value} {n nx : Nat} {p : Nat → Nat} {A : Nat → fg_T} {g : Nat → Option Nat}
def ce_gs (s : String) : Int32 := if s = eIO then 1 else if s = eUO then 2 else 3
theorem m_197 (I : ro_I h y S th R) (Q : ro_S S M) (O : mm_ok M) (a b : Int32) : rd_Q h y S R (jx_A 197 [.ref y, .int a, .int b] h) (sp_rank M a b 0) ce_gs (.int 0) := by
  obtain ⟨p, A, g, B, hF, ho⟩ := Q
  have J : rq_J h y (ro_fs y th R) S M.1 M.2.1 p A g := ⟨I.1, B⟩
  have hn := rq_n J
  obtain ⟨cc, qc, e⟩ := m_189 J a b
  have fail : ∀ (k : Int32) (s : String), zN (bd_o A g) cc = k → k ≠ 0 → ¬ k ≤ 0 → ce_gs s = k → sp_rank M a b 0 (.inr s) → rd_Q h y S R (jx_A 197 [.ref y, .int a, .int b] h) (sp_rank M a b 0) ce_gs (.int 0) := by
    intro k s hk k0 k1 hs sp
    obtain ⟨h1, x1, I1, t1⟩ := ro_pth I k
    obtain ⟨h2, x2, I2, t2⟩ := ro_pth I1 k
    refine ⟨.inr s, h2, sp, mz_eq_tr t1 t2, ?_, by rw [hs]; exact I2⟩
    rw [a_197, rq_is J, jx_cI_e e, hk, x1, ro_6 I1, if_neg k0, ro_6 I1, b_197_34, x2, ro_6 I2, if_neg k1]
  cases cc with
  | none => exact fail 1 eIO rfl (by decide) (by decide) (by decide) ⟨none, qc, rfl⟩
  | some c =>
    have hc := q_64 qc
    have gp := mm_gap_cong ho hc
    cases eg : mm_gap (bd_o A g) c with
    | false => exact fail 2 eUO (by unfold zN; dsimp only; rw [eg]; rfl) (by decide) (by decide) (by decide) ⟨some c, qc, Or.inl ⟨by rw [← gp]; exact eg, rfl⟩⟩
    | true =>
      have gM : mm_gap M.2.2.2 c = true := by rw [← gp]; exact eg
      have z0 : zN (bd_o A g) (some c) = 0 := by unfold zN; dsimp only; rw [eg]; rfl
      obtain ⟨h1, x1, I1, t1⟩ := ro_pth I 0
      have J1 : rq_J h1 y (ro_fs y 0 R) S M.1 M.2.1 p A g := ⟨I1.1, B⟩
      have m148 := m_148 J1 true
      have m148 : jx_A 148 [.ref y, .int 1] h1 = some (.inl (some (.int (nI (mz_su (fun j => (!fg_on (A (p j))).toNat) M.1)))), h1) := m148
      have le : mz_su (fun j => (!fg_on (A (p j))).toNat) M.1 ≤ M.1 * 1 := mz_su_le (fun k _ => by cases fg_on (A (p k)) <;> decide)
      by_cases z : mz_su (fun j => (!fg_on (A (p j))).toNat) M.1 = 0
      · obtain ⟨h2, x2, I2, t2⟩ := ro_pth I1 3
        refine ⟨.inr eNS, h2, ⟨some c, qc, Or.inr ⟨gM, none, fun k hk w => ?_, rfl⟩⟩, mz_eq_tr t1 t2, ?_, I2⟩
        · have := rk_lt (n := M.1) (P := fun j => !fg_on (A (p j))) rk_Ob hk (by rw [hF k hk]; simpa using w.1)
          omega
        · rw [a_197, rq_is J, jx_cI_e e, z0, x1, ro_6 I1, if_pos rfl, ro_is I1, jx_cI_e m148, z, if_pos (show nI 0 = 0 from rfl), b_197_34, x2, ro_6 I2, if_neg (by decide)]
      · obtain ⟨h2, x2, I2, t2⟩ := ro_pth I1 0
        have J2 : rq_J h2 y (ro_fs y 0 R) S M.1 M.2.1 p A g := ⟨I2.1, B⟩
        obtain ⟨o, hgr, x7⟩ := m_187 J2 (mm_okA O hF) hc
        have hgr' : mm_gr M.1 M.2.2.1 (mm_tws M c) 0 o := mm_gr_F hF ho hc hgr
        cases o with
        | none =>
          exfalso
          obtain ⟨k, hk, e1, -⟩ := rk_sur (P := fun j => !fg_on (A (p j))) (n := M.1) rk_Ob (r := 0) (by omega)
          exact mm_gr_0 ⟨k, hk, by rw [← hF k hk]; simpa using e1⟩ hgr'
        | some k =>
          have hk : k < M.1 := hgr.1
          refine ⟨.inl (.int (nI (fg_id (M.2.2.1 k)))), h2, ⟨some c, qc, Or.inr ⟨gM, some k, hgr', rfl⟩⟩, mz_eq_tr t1 t2, ?_, I2⟩
          rw [a_197, rq_is J, jx_cI_e e, z0, x1, ro_6 I1, if_pos rfl, ro_is I1, jx_cI_e m148, if_neg (nI_ne0 (by omega) (by omega)), ro_6 I1, b_197_34, x2, ro_6 I2, if_pos (by decide), ro_is I2, q_cell_e qc, jx_cI_e x7, ro_is I2, jx_cI_e (m_143 J2 hk), hF k hk]
theorem m_198i (J : rq_J h y fs S n nx p A g) (U : rq_A n p A) {k c : Nat} (hk : k < n) (hl : fg_on (A (p k)) = false) (hc : c < 64) {a b : Int32} (ec : (8 * a) + b = nI c) (r v4 : Int32) :
    jx_E 198 70 [.ref y, .int a, .int b, .int r, .int v4, .int (nI (p k)), .int 0, .int 0] [] h = jx_E 198 70 [.ref y, .int a, .int b, .int r, .int v4, .int (nI (p k)), .int (nI (rk_n n (fun j => !fg_on (A (p j))) (rk_w (fun k => mm_tw (bd_o A g) (A (p k)) c)) k)), .int 20] [] h := by
  have W := rq_W J
  have hn := rq_n J
  obtain ⟨q, hq⟩ := mz_inv_p (fun k hk => rq_p J hk) W.1
  have e : mz_su (fun j => (Nat.blt (q j) n && (!fg_on (A j) && rk_w (fun k => mm_tw (bd_o A g) (A (p k)) c) (q j) k)).toNat) 20 = rk_n n (fun j => !fg_on (A (p j))) (rk_w (fun k => mm_tw (bd_o A g) (A (p k)) c)) k := by
    refine mz_perm (fun k hk => rq_p J hk) W.1 (rq_n J) (P := fun j => !fg_on (A (p j)) && rk_w (fun k => mm_tw (bd_o A g) (A (p k)) c) j k) (Q := fun j => Nat.blt (q j) n && (!fg_on (A j) && rk_w (fun k => mm_tw (bd_o A g) (A (p k)) c) (q j) k)) (fun j hj => ?_)
    have := hq _ (rq_p J hj)
    rw [W.1 _ _ this.1 hj this.2]
  rw [← e]
  refine mz_lp (fun i => jx_E 198 70 [.ref y, .int a, .int b, .int r, .int v4, .int (nI (p k)), .int (nI (mz_su (fun j => (Nat.blt (q j) n && (!fg_on (A j) && rk_w (fun k => mm_tw (bd_o A g) (A (p k)) c) (q j) k)).toNat) i)), .int (nI i)] [] h) 20 _ rfl ?_ 0 (by decide)
  intro i hi
  obtain ⟨q1, q2⟩ := hq i hi
  show jx_E 198 70 _ _ _ = jx_E 198 70 [.ref y, .int a, .int b, .int r, .int v4, .int (nI (p k)), .int (nI (mz_su (fun j => (Nat.blt (q j) n && (!fg_on (A j) && rk_w (fun k => mm_tw (bd_o A g) (A (p k)) c) (q j) k)).toNat) i + (Nat.blt (q i) n && (!fg_on (A i) && rk_w (fun k => mm_tw (bd_o A g) (A (p k)) c) (q i) k)).toNat)), .int (nI (i + 1))] [] h
  have e1 := m_147 J q1
  rw [q2] at e1
  have pk := rq_p J (show k < 20 by omega)
  rw [b_198_70, if_neg (show ¬ 20 ≤ nI i from nI_ge (b := 20) hi (by decide)), rq_is J, jx_cI_e (m_147 J (show k < 20 by omega)), Nat_blt_t hk, hl, if_neg (show ¬ bI (true && !false) = 0 by decide), rq_is J, jx_cI_e e1, nI_1, nI_1, Int32.add_zero]
  by_cases c1 : q i < n
  · rw [Nat_blt_t c1]
    cases eo : fg_on (A i) with
    | true => rw [if_pos (show bI (true && !true) = 0 from rfl)]; rfl
    | false =>
      rw [if_neg (show ¬ bI (true && !false) = 0 by decide)]
      by_cases z : q i = k
      · have ik : i = p k := by rw [← z]; exact q2.symm
        rw [if_pos (by rw [ik]), z, (rk_Ow _).1 k]; rfl
      · have ik : i ≠ p k := fun w => z (W.1 _ _ q1 (by omega) (by rw [q2]; exact w))
        rw [if_neg (fun w => ik ((nI_eq (by omega) (by omega)).mp w)), rq_is J, ec]
        have m := m_186 J U c1 hk hc
        rw [q2] at m
        rcases m with ⟨m1, m2⟩ | ⟨m1, m2⟩
        · rw [jx_cI_e m2, if_neg (by decide), rk_wb.mpr m1]; rfl
        · rw [jx_cI_e m2, if_pos rfl, Bool.eq_false_iff.mpr (fun w => m1 (rk_wb.mp w))]; rfl
  · rw [Nat_blt_f (show n ≤ q i by omega), if_pos (show bI (false && _) = 0 from rfl)]; rfl
theorem m_198j (J : rq_J h y fs S n nx p A g) {k : Nat} (hk : k < 20) (hl : bI (Nat.blt k n && !fg_on (A (p k))) = 0) (a b r v4 : Int32) :
    jx_E 198 70 [.ref y, .int a, .int b, .int r, .int v4, .int (nI (p k)), .int 0, .int 0] [] h = jx_E 198 70 [.ref y, .int a, .int b, .int r, .int v4, .int (nI (p k)), .int 0, .int 20] [] h := by
  refine mz_lp (fun i => jx_E 198 70 [.ref y, .int a, .int b, .int r, .int v4, .int (nI (p k)), .int 0, .int (nI i)] [] h) 20 _ rfl ?_ 0 (by decide)
  intro i hi
  show jx_E 198 70 _ _ _ = jx_E 198 70 _ _ _
  rw [b_198_70, if_neg (show ¬ 20 ≤ nI i from nI_ge (b := 20) hi (by decide)), rq_is J, jx_cI_e (m_147 J hk), if_pos hl, nI_1]; rfl
theorem m_198 (I : ro_I h y S th R) (Q : ro_S S M) (O : mm_ok M) (a b r : Int32) : rd_Q h y S R (jx_A 198 [.ref y, .int a, .int b, .int r] h) (sp_rank M a b r) ce_gs (.int 0) := by
  obtain ⟨p, A, g, B, hF, ho⟩ := Q
  have J : rq_J h y (ro_fs y th R) S M.1 M.2.1 p A g := ⟨I.1, B⟩
  have hn := rq_n J
  have W := rq_W J
  have U := mm_okA O hF
  obtain ⟨cc, qc, e⟩ := m_189 J a b
  have fail : ∀ (k : Int32) (s : String), zN (bd_o A g) cc = k → k ≠ 0 → ce_gs s = k → sp_rank M a b r (.inr s) → rd_Q h y S R (jx_A 198 [.ref y, .int a, .int b, .int r] h) (sp_rank M a b r) ce_gs (.int 0) := by
    intro k s hk k0 hs sp
    obtain ⟨h1, x1, I1, t1⟩ := ro_pth I k
    obtain ⟨h2, x2, I2, t2⟩ := ro_pth I1 k
    refine ⟨.inr s, h2, sp, mz_eq_tr t1 t2, ?_, by rw [hs]; exact I2⟩
    rw [a_198, rq_is J, jx_cI_e e, hk, x1, ro_6 I1, if_neg k0, ro_6 I1, x2, b_198_50, if_neg (by decide), ro_6 I2, if_neg k0]
  cases cc with
  | none => exact fail 1 eIO rfl (by decide) (by decide) ⟨none, qc, rfl⟩
  | some c =>
    have hc := q_64 qc
    have ec := q_cell_e qc
    have gp := mm_gap_cong ho hc
    cases eg : mm_gap (bd_o A g) c with
    | false => exact fail 2 eUO (by unfold zN; dsimp only; rw [eg]; rfl) (by decide) (by decide) ⟨some c, qc, Or.inl ⟨by rw [← gp]; exact eg, rfl⟩⟩
    | true =>
      have gM : mm_gap M.2.2.2 c = true := by rw [← gp]; exact eg
      have z0 : zN (bd_o A g) (some c) = 0 := by unfold zN; dsimp only; rw [eg]; rfl
      obtain ⟨h1, x1, I1, t1⟩ := ro_pth I 0
      have J1 : rq_J h1 y (ro_fs y 0 R) S M.1 M.2.1 p A g := ⟨I1.1, B⟩
      have m148 := m_148 J1 true
      have m148 : jx_A 148 [.ref y, .int 1] h1 = some (.inl (some (.int (nI (mz_su (fun j => (!fg_on (A (p j))).toNat) M.1)))), h1) := m148
      have OW := rk_Ow (fun k => mm_tw (bd_o A g) (A (p k)) c)
      rcases rk_ask (n := M.1) (P := fun j => !fg_on (A (p j))) OW hn r h1 with ⟨k0, hk0, e1, e2, q⟩ | ⟨hno, q⟩
      · have hgr : mm_gr M.1 (fun k => A (p k)) (fun k => mm_tw (bd_o A g) (A (p k)) c) r (some k0) := ⟨hk0, by simpa using e1, e2⟩
        have hgr' : mm_gr M.1 M.2.2.1 (mm_tws M c) r (some k0) := mm_gr_F hF ho hc hgr
        obtain ⟨h2, x2, I2, t2⟩ := ro_pth I1 0
        have J2 : rq_J h2 y (ro_fs y 0 R) S M.1 M.2.1 p A g := ⟨I2.1, B⟩
        have p0 := rq_p J (show k0 < 20 by omega)
        refine ⟨.inl (.int (nI (fg_id (M.2.2.1 k0)))), h2, ⟨some c, qc, Or.inr ⟨gM, some k0, hgr', rfl⟩⟩, mz_eq_tr t1 t2, ?_, I2⟩
        rw [a_198, rq_is J, jx_cI_e e, z0, x1, ro_6 I1, if_pos rfl, ro_is I1, jx_cI_e m148, jx_cI_e q, if_neg (by decide), ro_6 I1, x2]
        refine mz_inv (γ := Int32 × Value × Value) (fun i w => jx_E 198 50 [.ref y, .int a, .int b, .int r, .int w.1, .int (nI i), w.2.1, w.2.2] [] h2) (fun i w => w.1 = if p k0 < i then nI (fg_id (M.2.2.1 k0)) else 0) 20 (fun X => X = some (.inl (some (.int (nI (fg_id (M.2.2.1 k0))))), h2)) ?_ ?_ 0 (0, jx_j, jx_j) (by decide) (by rw [if_neg (Nat.not_lt_zero _)])
        · intro w e
          rw [if_pos p0] at e
          rw [b_198_50, if_pos (by decide), e]
        · intro i w hi e
          right
          obtain ⟨w, w5, w6⟩ := w
          dsimp only at e ⊢
          obtain ⟨k, hk, rfl⟩ := mz_surj (fun k hk => rq_p J hk) W.1 hi
          rw [b_198_50, if_neg (show ¬ 20 ≤ nI (p k) from nI_ge (b := 20) hi (by decide)), ro_6 I2, if_pos rfl]
          have stay : k ≠ k0 → w = if p k0 < p k + 1 then nI (fg_id (M.2.2.1 k0)) else 0 := fun ne => by
            have ne : p k ≠ p k0 := fun q => ne (W.1 k k0 hk (by omega) q)
            rw [e]
            by_cases q : p k0 < p k
            · rw [if_pos q, if_pos (by omega)]
            · rw [if_neg q, if_neg (by omega)]
          cases el : (Nat.blt k M.1 && !fg_on (A (p k))) with
          | false =>
            have x7 := m_147 J2 hk
            rw [el] at x7
            rw [m_198j J2 hk (by rw [el]; rfl), b_198_70, if_pos (show (20 : Int32) ≤ 20 by decide), rq_is J2, jx_cI_e x7, if_pos (show bI false = 0 from rfl), nI_1]
            refine ⟨(w, .int _, .int _), stay (fun q => ?_), rfl⟩
            subst q
            rw [Nat_blt_t hk0, Bool.true_and] at el
            rw [el] at e1; cases e1
          | true =>
            have el2 := Bool.and_eq_true_iff.mp el
            have c1 : k < M.1 := Nat.blt_eq.mp el2.1
            have eo : fg_on (A (p k)) = false := by simpa using el2.2
            have x7 := m_147 J2 hk
            rw [el] at x7
            rw [m_198i J2 U c1 eo hc ec, b_198_70, if_pos (show (20 : Int32) ≤ 20 by decide), rq_is J2, jx_cI_e x7, if_neg (show ¬ bI true = 0 by decide), nI_1]
            by_cases z : k = k0
            · subst z
              rw [if_pos e2, rq_is J2, jx_cI_e (m_143 J2 c1), hF k c1]
              exact ⟨(_, .int _, .int _), (if_pos (Nat.lt_succ_self _)).symm, rfl⟩
            · have nq : ¬ nI (rk_n M.1 (fun j => !fg_on (A (p j))) (rk_w (fun k => mm_tw (bd_o A g) (A (p k)) c)) k) = r := by
                intro q2
                have l1 := rk_lt (n := M.1) (P := fun j => !fg_on (A (p j))) OW c1 (by rw [eo]; rfl)
                have l2 := rk_lt (n := M.1) (P := fun j => !fg_on (A (p j))) OW hk0 e1
                have le : mz_su (fun j => (!fg_on (A (p j))).toNat) M.1 ≤ M.1 * 1 := mz_su_le (fun k _ => by cases fg_on (A (p k)) <;> decide)
                exact z (rk_inj (n := M.1) (P := fun j => !fg_on (A (p j))) OW c1 hk0 (by rw [eo]; rfl) e1 ((nI_eq (by omega) (by omega)).mp (q2.trans e2.symm)))
              rw [if_neg nq]
              exact ⟨(w, .int _, .int _), stay z, rfl⟩
      · obtain ⟨h2, x2, I2, t2⟩ := ro_pth I1 3
        have hgr : mm_gr M.1 (fun k => A (p k)) (fun k => mm_tw (bd_o A g) (A (p k)) c) r none := fun k hk w => hno k hk ⟨by simpa using w.1, w.2⟩
        refine ⟨.inr eNS, h2, ⟨some c, qc, Or.inr ⟨gM, none, mm_gr_F hF ho hc hgr, rfl⟩⟩, mz_eq_tr t1 t2, ?_, I2⟩
        rw [a_198, rq_is J, jx_cI_e e, z0, x1, ro_6 I1, if_pos rfl, ro_is I1, jx_cI_e m148, jx_cI_e q, if_pos rfl, x2, b_198_50, if_neg (by decide), ro_6 I2, if_neg (by decide)]
end RD
end JX
