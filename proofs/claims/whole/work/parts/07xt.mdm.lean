/-! The other object's questions, second part. -/
section JX
def ce_NA (s : String) : Int32 := if s = eNS then 1 else 2
def ce_IN (s : String) : Int32 := if s = eIO then 1 else 2
def ce_wt (s : String) : Int32 := if s = eNS then 1 else if s = eIO then 2 else if s = eIA then 3 else if s = eIS then 4 else 5
def ce_bt (s : String) : Int32 := if s = eNS then 1 else if s = eIO then 2 else if s = eIS then 3 else 4
theorem q_cell_u {a b : Int32} {o o' : Option Nat} (q : q_cell a b o) (q' : q_cell a b o') : o = o' := by
  cases o with
  | none =>
    cases o' with
    | none => rfl
    | some c =>
      obtain ⟨i, j, rfl, hi, rfl, hj, rfl⟩ := q'
      rcases q with z | z
      · exact absurd rfl (z i hi)
      · exact absurd rfl (z j hj)
  | some c =>
    obtain ⟨i, j, rfl, hi, rfl, hj, rfl⟩ := q
    cases o' with
    | none =>
      rcases q' with z | z
      · exact absurd rfl (z i hi)
      · exact absurd rfl (z j hj)
    | some c2 =>
      obtain ⟨i', j', z1, z2, z3, z4, rfl⟩ := q'
      have z1 := (nI_eq (by omega) (by omega)).mp z1
      have z3 := (nI_eq (by omega) (by omega)).mp z3
      rw [z1, z3]
theorem q_cell_e {a b : Int32} {c : Nat} (q : q_cell a b (some c)) : (8 * a) + b = nI c := by
  obtain ⟨i, j, rfl, -, rfl, -, rfl⟩ := q
  exact mz_8 i j
theorem mz_sm {c : Nat} : ¬ bI (some c).isSome = 0 := (by decide : ¬ bI true = 0)
section RD
variable {h : jx_H} {y : Nat} {S : Nat → Nat} {R : ro_R} {M : mm_T} {th : Int32}
theorem m_170 (I : ro_I h y S th R) (Q : ro_S S M) (O : mm_ok M) (v s : Int32) : rd_Q h y S R (jx_A 170 [.ref y, .int v, .int s] h) (sp_edge M v s) ce_NA (.int 0) := by
  obtain ⟨p, A, g, B, hF, ho⟩ := Q
  have J : rq_J h y (ro_fs y th R) S M.1 M.2.1 p A g := ⟨I.1, B⟩
  have hn := rq_n J
  obtain ⟨o, hf, e⟩ := m_144 J (rq_AU (mm_okA O hF)) v
  have hf' : mm_fd M v o := bd_fd_cong hF hf
  cases o with
  | none =>
    obtain ⟨h1, x1, I1, t1⟩ := ro_pth I 1
    refine ⟨.inr eNS, h1, ⟨none, hf', rfl⟩, t1, ?_, I1⟩
    rw [a_170, rq_is J, jx_cI_e e, if_neg (show ¬ (0 : Int32) ≤ -1 by decide), b_170_29, x1, ro_6 I1, if_neg (by decide)]
  | some k =>
    have hk : k < M.1 := hf.1
    have pk := rq_p J (show k < 20 by omega)
    rcases m_135r s 3 (by decide) h with ⟨s', hs, rfl, q⟩ | ⟨hs, q⟩
    · obtain ⟨h1, x1, I1, t1⟩ := ro_pth I 0
      have J1 : rq_J h1 y (ro_fs y 0 R) S M.1 M.2.1 p A g := ⟨I1.1, B⟩
      refine ⟨.inl (.int (nI (fg_at (M.2.2.1 k) s'))), h1, ⟨some k, hf', some s', ⟨rfl, hs⟩, rfl⟩, t1, ?_, I1⟩
      rw [a_170, rq_is J, jx_cI_e e, if_pos (show (0 : Int32) ≤ nI (p k) from nI_pos' (by omega)), jx_cI_e (show jx_A 135 [.int (nI s'), .int 0, .int 3] h = _ from q), if_neg (by decide), b_170_29, x1, ro_6 I1, if_pos (by decide), rq_is J1, jx_cI_e (m_140t J1 hk), rq_is J1, jx_cI_e (m_153 J1 hk (by omega) (rq_ok J1 hk).2.2.2.1), ← hF k hk]
      rfl
    · obtain ⟨h1, x1, I1, t1⟩ := ro_pth I 2
      refine ⟨.inr eIA, h1, ⟨some k, hf', none, hs, rfl⟩, t1, ?_, I1⟩
      rw [a_170, rq_is J, jx_cI_e e, if_pos (show (0 : Int32) ≤ nI (p k) from nI_pos' (by omega)), jx_cI_e (show jx_A 135 [.int s, .int 0, .int 3] h = _ from q), if_pos rfl, b_170_29, x1, ro_6 I1, if_neg (by decide)]
theorem m_208 (I : ro_I h y S th R) (Q : ro_S S M) (O : mm_ok M) (v s : Int32) : rd_Q h y S R (jx_A 208 [.ref y, .int v, .int s] h) (sp_fits M v s) ce_NA (.int 0) := by
  obtain ⟨p, A, g, B, hF, ho⟩ := Q
  have J : rq_J h y (ro_fs y th R) S M.1 M.2.1 p A g := ⟨I.1, B⟩
  have hn := rq_n J
  obtain ⟨o, hf, e⟩ := m_146 J (rq_AU (mm_okA O hF)) v
  have hf' : mm_fd M v o := bd_fd_cong hF hf
  have no : jx_A 146 [.ref y, .int v] h = some (.inl (some (.int (-1))), h) → (mm_fd M v none ∨ ∃ k, mm_fd M v (some k) ∧ fg_on (M.2.2.1 k) = false) → rd_Q h y S R (jx_A 208 [.ref y, .int v, .int s] h) (sp_fits M v s) ce_NA (.int 0) := by
    intro e1 q
    obtain ⟨h1, x1, I1, t1⟩ := ro_pth I 1
    refine ⟨.inr eNS, h1, ⟨none, q, rfl⟩, t1, ?_, I1⟩
    rw [a_208, rq_is J, jx_cI_e e1, if_neg (show ¬ (0 : Int32) ≤ -1 by decide), b_208_29, x1, ro_6 I1, if_neg (by decide)]
  cases o with
  | none => exact no e (Or.inl hf')
  | some k =>
    have hk : k < M.1 := hf.1
    have pk := rq_p J (show k < 20 by omega)
    cases eo : fg_on (A (p k)) with
    | false => exact no (by rw [e]; dsimp only; rw [eo]; rfl) (Or.inr ⟨k, hf', by rw [← hF k hk]; exact eo⟩)
    | true =>
      dsimp only at e
      rw [eo] at e
      have e : jx_A 146 [.ref y, .int v] h = some (.inl (some (.int (nI (p k)))), h) := e
      have c1 := fg_on_1.mp eo
      obtain ⟨c, hce⟩ : ∃ c, fg_ce (A (p k)) = c + 1 := ⟨fg_ce (A (p k)) - 1, by omega⟩
      have hc : c < 64 := by have := (rq_ok J hk).2.2.2.2; omega
      have gd : mm_gd M v (some (k, c)) := ⟨hf', by rw [← hF k hk]; exact hce, hc⟩
      rcases m_135r s 3 (by decide) h with ⟨s', hs, rfl, q⟩ | ⟨hs, q⟩
      · obtain ⟨h1, x1, I1, t1⟩ := ro_pth I 0
        have J1 : rq_J h1 y (ro_fs y 0 R) S M.1 M.2.1 p A g := ⟨I1.1, B⟩
        refine ⟨.inl (.int (bI (mm_ct M.2.2.2 c s' == 1))), h1, ⟨some (k, c), gd, some s', ⟨rfl, hs⟩, rfl⟩, t1, ?_, I1⟩
        have ct := m_155 J1 hc (show s' < 4 by omega)
        rw [mm_ct_cong ho hc (by omega)] at ct
        have le := mm_ct_le M.2.2.2 c s'
        rw [a_208, rq_is J, jx_cI_e e, if_pos (show (0 : Int32) ≤ nI (p k) from nI_pos' (by omega)), jx_cI_e (show jx_A 135 [.int (nI s'), .int 0, .int 3] h = _ from q), if_neg (by decide), b_208_29, x1, ro_6 I1, if_pos rfl, rq_is J1, jx_cI_e (m_140c J1 hk), hce, nI_pred, rq_is J1, jx_cI_e ct]
        match mm_ct M.2.2.2 c s', le with
        | 0, _ => rfl
        | 1, _ => rfl
        | 2, _ => rfl
      · obtain ⟨h1, x1, I1, t1⟩ := ro_pth I 2
        refine ⟨.inr eIA, h1, ⟨some (k, c), gd, none, hs, rfl⟩, t1, ?_, I1⟩
        rw [a_208, rq_is J, jx_cI_e e, if_pos (show (0 : Int32) ≤ nI (p k) from nI_pos' (by omega)), jx_cI_e (show jx_A 135 [.int s, .int 0, .int 3] h = _ from q), if_pos rfl, b_208_29, x1, ro_6 I1, if_neg (by decide)]
theorem m_195 (I : ro_I h y S th R) (Q : ro_S S M) (O : mm_ok M) (v a b t : Int32) : rd_Q h y S R (jx_A 195 [.ref y, .int v, .int a, .int b, .int t] h) (sp_wt M v a b t) ce_wt (.int 0) := by
  obtain ⟨p, A, g, B, hF, ho⟩ := Q
  have J : rq_J h y (ro_fs y th R) S M.1 M.2.1 p A g := ⟨I.1, B⟩
  have hn := rq_n J
  obtain ⟨o, hf, e⟩ := m_144 J (rq_AU (mm_okA O hF)) v
  have hf' : mm_fd M v o := bd_fd_cong hF hf
  cases o with
  | none =>
    obtain ⟨h1, x1, I1, t1⟩ := ro_pth I 1
    refine ⟨.inr eNS, h1, ⟨none, hf', rfl⟩, t1, ?_, I1⟩
    rw [a_195, rq_is J, jx_cI_e e, if_neg (show ¬ (0 : Int32) ≤ -1 by decide), b_195_70, x1, ro_6 I1, if_neg (by decide)]
  | some k =>
    have hk : k < M.1 := hf.1
    have pk := rq_p J (show k < 20 by omega)
    have p0 : (0 : Int32) ≤ nI (p k) := nI_pos' (by omega)
    obtain ⟨c, qc, ec⟩ := m_149q a b h
    cases c with
    | none =>
      obtain ⟨h1, x1, I1, t1⟩ := ro_pth I 2
      refine ⟨.inr eIO, h1, ⟨some k, hf', none, qc, rfl⟩, t1, ?_, I1⟩
      rw [a_195, rq_is J, jx_cI_e e, if_pos p0, jx_cI_e ec, if_pos (show bI (none : Option Nat).isSome = 0 from rfl), b_195_70, x1, ro_6 I1, if_neg (by decide)]
    | some c =>
      have hc := q_64 qc
      have ec1 := q_cell_e qc
      rcases m_135r t 3 (by decide) h with ⟨t', ht, rfl, q⟩ | ⟨ht, q⟩
      · have q : jx_A 135 [.int (nI t'), .int 0, .int 3] h = _ := q
        cases eo : fg_on (A (p k)) with
        | true =>
          obtain ⟨h1, x1, I1, t1⟩ := ro_pth I 4
          refine ⟨.inr eIS, h1, ⟨some k, hf', some c, qc, some t', ⟨rfl, ht⟩, Or.inl ⟨by rw [← hF k hk]; exact eo, rfl⟩⟩, t1, ?_, I1⟩
          rw [a_195, rq_is J, jx_cI_e e, if_pos p0, jx_cI_e ec, if_neg mz_sm, jx_cI_e q, if_neg (by decide), rq_is J, jx_cI_e (m_145 J hk), eo, if_neg (by decide), b_195_70, x1, ro_6 I1, if_neg (by decide)]
        | false =>
          have ef : fg_on (M.2.2.1 k) = false := by rw [← hF k hk]; exact eo
          obtain ⟨c', qc', e9⟩ := m_189 J a b
          have cc : c' = some c := q_cell_u qc' qc
          subst cc
          have gp := mm_gap_cong ho hc
          cases eg : mm_gap (bd_o A g) c with
          | false =>
            have z2 : zN (bd_o A g) (some c) = 2 := by unfold zN; dsimp only; rw [eg]; rfl
            obtain ⟨h1, x1, I1, t1⟩ := ro_pth I 5
            refine ⟨.inr eUO, h1, ⟨some k, hf', some c, qc, some t', ⟨rfl, ht⟩, Or.inr ⟨ef, Or.inl ⟨by rw [← gp]; exact eg, rfl⟩⟩⟩, t1, ?_, I1⟩
            rw [a_195, rq_is J, jx_cI_e e, if_pos p0, jx_cI_e ec, if_neg mz_sm, jx_cI_e q, if_neg (by decide), rq_is J, jx_cI_e (m_145 J hk), eo, if_pos (show bI false = 0 from rfl), rq_is J, jx_cI_e e9, z2, if_neg (by decide), b_195_70, x1, ro_6 I1, if_neg (by decide)]
          | true =>
            have z0 : zN (bd_o A g) (some c) = 0 := by unfold zN; dsimp only; rw [eg]; rfl
            obtain ⟨h1, x1, I1, t1⟩ := ro_pth I 0
            have J1 : rq_J h1 y (ro_fs y 0 R) S M.1 M.2.1 p A g := ⟨I1.1, B⟩
            refine ⟨.inl (.int (zI (mm_wt M.2.2.2 (M.2.2.1 k) c t'))), h1, ⟨some k, hf', some c, qc, some t', ⟨rfl, ht⟩, Or.inr ⟨ef, Or.inr ⟨by rw [← gp]; exact eg, rfl⟩⟩⟩, t1, ?_, I1⟩
            rw [a_195, rq_is J, jx_cI_e e, if_pos p0, jx_cI_e ec, if_neg mz_sm, jx_cI_e q, if_neg (by decide), rq_is J, jx_cI_e (m_145 J hk), eo, if_pos (show bI false = 0 from rfl), rq_is J, jx_cI_e e9, z0, if_pos (by decide), b_195_70, x1, ro_6 I1, if_pos (by decide), rq_is J1, ec1, jx_cI_e (m_183 J1 hk hc (show t' < 4 by omega)), mm_wt_cong ho hc, hF k hk]
      · obtain ⟨h1, x1, I1, t1⟩ := ro_pth I 3
        refine ⟨.inr eIA, h1, ⟨some k, hf', some c, qc, none, ht, rfl⟩, t1, ?_, I1⟩
        rw [a_195, rq_is J, jx_cI_e e, if_pos p0, jx_cI_e ec, if_neg mz_sm, jx_cI_e (show jx_A 135 [.int t, .int 0, .int 3] h = _ from q), if_pos rfl, b_195_70, x1, ro_6 I1, if_neg (by decide)]
theorem m_196 (I : ro_I h y S th R) (Q : ro_S S M) (O : mm_ok M) (v a b : Int32) : rd_Q h y S R (jx_A 196 [.ref y, .int v, .int a, .int b] h) (sp_bt M v a b) ce_bt (.int 0) := by
  obtain ⟨p, A, g, B, hF, ho⟩ := Q
  have J : rq_J h y (ro_fs y th R) S M.1 M.2.1 p A g := ⟨I.1, B⟩
  have hn := rq_n J
  obtain ⟨o, hf, e⟩ := m_144 J (rq_AU (mm_okA O hF)) v
  have hf' : mm_fd M v o := bd_fd_cong hF hf
  cases o with
  | none =>
    obtain ⟨h1, x1, I1, t1⟩ := ro_pth I 1
    refine ⟨.inr eNS, h1, ⟨none, hf', rfl⟩, t1, ?_, I1⟩
    rw [a_196, rq_is J, jx_cI_e e, if_neg (show ¬ (0 : Int32) ≤ -1 by decide), b_196_56, x1, ro_6 I1, if_neg (by decide)]
  | some k =>
    have hk : k < M.1 := hf.1
    have pk := rq_p J (show k < 20 by omega)
    have p0 : (0 : Int32) ≤ nI (p k) := nI_pos' (by omega)
    obtain ⟨c, qc, ec⟩ := m_149q a b h
    cases c with
    | none =>
      obtain ⟨h1, x1, I1, t1⟩ := ro_pth I 2
      refine ⟨.inr eIO, h1, ⟨some k, hf', none, qc, rfl⟩, t1, ?_, I1⟩
      rw [a_196, rq_is J, jx_cI_e e, if_pos p0, jx_cI_e ec, if_pos (show bI (none : Option Nat).isSome = 0 from rfl), b_196_56, x1, ro_6 I1, if_neg (by decide)]
    | some c =>
      have hc := q_64 qc
      have ec1 := q_cell_e qc
      cases eo : fg_on (A (p k)) with
      | true =>
        obtain ⟨h1, x1, I1, t1⟩ := ro_pth I 3
        refine ⟨.inr eIS, h1, ⟨some k, hf', some c, qc, Or.inl ⟨by rw [← hF k hk]; exact eo, rfl⟩⟩, t1, ?_, I1⟩
        rw [a_196, rq_is J, jx_cI_e e, if_pos p0, jx_cI_e ec, if_neg mz_sm, rq_is J, jx_cI_e (m_145 J hk), eo, if_neg (by decide), b_196_56, x1, ro_6 I1, if_neg (by decide)]
      | false =>
        have ef : fg_on (M.2.2.1 k) = false := by rw [← hF k hk]; exact eo
        obtain ⟨c', qc', e9⟩ := m_189 J a b
        have cc : c' = some c := q_cell_u qc' qc
        subst cc
        have gp := mm_gap_cong ho hc
        cases eg : mm_gap (bd_o A g) c with
        | false =>
          have z2 : zN (bd_o A g) (some c) = 2 := by unfold zN; dsimp only; rw [eg]; rfl
          obtain ⟨h1, x1, I1, t1⟩ := ro_pth I 4
          refine ⟨.inr eUO, h1, ⟨some k, hf', some c, qc, Or.inr ⟨ef, Or.inl ⟨by rw [← gp]; exact eg, rfl⟩⟩⟩, t1, ?_, I1⟩
          rw [a_196, rq_is J, jx_cI_e e, if_pos p0, jx_cI_e ec, if_neg mz_sm, rq_is J, jx_cI_e (m_145 J hk), eo, if_pos (show bI false = 0 from rfl), rq_is J, jx_cI_e e9, z2, if_neg (by decide), b_196_56, x1, ro_6 I1, if_neg (by decide)]
        | true =>
          have z0 : zN (bd_o A g) (some c) = 0 := by unfold zN; dsimp only; rw [eg]; rfl
          obtain ⟨h1, x1, I1, t1⟩ := ro_pth I 0
          have J1 : rq_J h1 y (ro_fs y 0 R) S M.1 M.2.1 p A g := ⟨I1.1, B⟩
          refine ⟨.inl (.int (nI (mm_tn M.2.2.2 (M.2.2.1 k) c))), h1, ⟨some k, hf', some c, qc, Or.inr ⟨ef, Or.inr ⟨by rw [← gp]; exact eg, rfl⟩⟩⟩, t1, ?_, I1⟩
          rw [a_196, rq_is J, jx_cI_e e, if_pos p0, jx_cI_e ec, if_neg mz_sm, rq_is J, jx_cI_e (m_145 J hk), eo, if_pos (show bI false = 0 from rfl), rq_is J, jx_cI_e e9, z0, if_pos (by decide), b_196_56, x1, ro_6 I1, if_pos (by decide), rq_is J1, ec1, jx_cI_e (m_184 J1 hk hc), mm_tn_cong ho hc, hF k hk]
theorem m_200 (I : ro_I h y S th R) (Q : ro_S S M) (a b : Int32) : rd_Q h y S R (jx_A 200 [.ref y, .int a, .int b] h) (sp_fat M a b) ce_IN (.int 0) := by
  obtain ⟨p, A, g, B, hF, ho⟩ := Q
  have J : rq_J h y (ro_fs y th R) S M.1 M.2.1 p A g := ⟨I.1, B⟩
  obtain ⟨c, qc, e⟩ := m_149q a b h
  cases c with
  | none =>
    obtain ⟨h1, x1, I1, t1⟩ := ro_pth I 1
    refine ⟨.inr eIO, h1, ⟨none, qc, rfl⟩, t1, ?_, I1⟩
    rw [a_200, jx_cI_e e, if_pos (show bI (none : Option Nat).isSome = 0 from rfl), b_200_36, x1, ro_6 I1, if_neg (by decide)]
  | some c =>
    have hc := q_64 qc
    have qc0 := qc
    have oc := ho c hc
    unfold bd_o at oc
    obtain ⟨i, j, rfl, hi, rfl, hj, rfl⟩ := qc
    cases eg : g (8 * i + j) with
    | none =>
      obtain ⟨h1, x1, I1, t1⟩ := ro_pth I 2
      rw [eg] at oc
      have oc : M.2.2.2 (8 * i + j) = none := oc.symm
      refine ⟨.inr eNS, h1, ⟨some (8 * i + j), qc0, by dsimp only; rw [oc]⟩, t1, ?_, I1⟩
      rw [a_200, jx_cI_e e, if_neg mz_sm, ro_0 I, mz_161n i (by omega) j (by omega), rq_c J hc, eg, if_pos (show nI (rq_g none) = 0 by decide), b_200_36, x1, ro_6 I1, if_neg (by decide)]
    | some z =>
      obtain ⟨k, hk, rfl, -⟩ := rq_gs J hc eg
      have hn := rq_n J
      have pk := rq_p J (show k < 20 by omega)
      obtain ⟨h1, x1, I1, t1⟩ := ro_pth I 0
      have J1 : rq_J h1 y (ro_fs y 0 R) S M.1 M.2.1 p A g := ⟨I1.1, B⟩
      rw [eg] at oc
      have oc : M.2.2.2 (8 * i + j) = some (A (p k)) := oc.symm
      have e0 : ¬ nI (p k + 1) = 0 := nI_ne0 (Nat.succ_pos _) (by omega)
      refine ⟨.inl (.int (nI (fg_id (A (p k))))), h1, ⟨some (8 * i + j), qc0, by dsimp only; rw [oc]⟩, t1, ?_, I1⟩
      rw [a_200, jx_cI_e e, if_neg mz_sm, ro_0 I, mz_161n i (by omega) j (by omega), rq_c J hc, eg, if_neg (show ¬ nI (rq_g (some (p k))) = 0 from e0), b_200_36, x1, ro_6 I1, if_pos (by decide), ro_0 I1, mz_161n i (by omega) j (by omega), rq_c J1 hc, eg, rq_is J1, show nI (rq_g (some (p k))) - 1 = nI (p k) from nI_pred _, jx_cI_e (m_143 J1 hk)]
/-- an answer that is always there -/
def rv_P (h : jx_H) (y : Nat) (S : Nat → Nat) (R : ro_R) (X : jx_R) (v : Value) : Prop := ∃ h', X = some (.inl (some v), h') ∧ ro_I h' y S 0 R ∧ mz_eq y (y + 8) h h'
theorem Int64_or0 (x : Int64) : x ||| 0 = x := mb_ext fun c _ => by rw [mb_or, mb_0, Bool.or_false]
theorem m_201 (I : ro_I h y S th R) (Q : ro_S S M) : rv_P h y S R (jx_A 201 [.ref y] h) (.long (mm_pm M)) := by
  obtain ⟨p, A, g, B, hF, ho⟩ := Q
  obtain ⟨h1, x1, I1, t1⟩ := ro_pth I 0
  have J1 : rq_J h1 y (ro_fs y 0 R) S M.1 M.2.1 p A g := ⟨I1.1, B⟩
  refine ⟨h1, ?_, I1, t1⟩
  rw [a_201, x1]
  refine mz_lp (fun i => jx_E 201 9 [.ref y, .long (mz_mkr (fun c => (M.2.2.2 c).isSome) i), jx_j, .int (nI i)] [] h1) 64 _ ?_ ?_ 0 (by decide)
  · rw [b_201_9, if_pos (by decide)]; rfl
  · intro i hi
    show jx_E 201 9 _ _ _ = jx_E 201 9 [.ref y, .long (bif (M.2.2.2 i).isSome then mz_mkr (fun c => (M.2.2.2 c).isSome) i ||| mz_bit i else mz_mkr (fun c => (M.2.2.2 c).isSome) i), jx_j, .int (nI (i + 1))] [] h1
    rw [b_201_9, if_neg (show ¬ 64 ≤ nI i from nI_ge (b := 64) hi (by decide)), ro_0 I1, rq_c J1 hi, ← ho i hi, nI_1, Int64_or0]
    unfold bd_o
    cases eg : g i with
    | none => rw [if_pos (show nI (rq_g none) ≤ 0 by decide)]; rfl
    | some z =>
      obtain ⟨k, hk, rfl, -⟩ := rq_gs J1 hi eg
      have hn := rq_n J1
      have pk := rq_p J1 (show k < 20 by omega)
      rw [if_neg (show ¬ nI (rq_g (some (p k))) ≤ 0 from (show ¬ nI (p k + 1) ≤ 0 from nI_nle (Nat.succ_pos _) (by omega)))]; rfl
theorem m_203 (I : ro_I h y S th R) (Q : ro_S S M) : rv_P h y S R (jx_A 203 [.ref y] h) (.long (mm_gm M)) := by
  obtain ⟨p, A, g, B, hF, ho⟩ := Q
  obtain ⟨h1, x1, I1, t1⟩ := ro_pth I 0
  have J1 : rq_J h1 y (ro_fs y 0 R) S M.1 M.2.1 p A g := ⟨I1.1, B⟩
  refine ⟨h1, ?_, I1, t1⟩
  rw [a_203, x1]
  refine mz_lp (fun i => jx_E 203 9 [.ref y, .long (mz_mkr (mm_gap M.2.2.2) i), jx_j, .int (nI i)] [] h1) 64 _ ?_ ?_ 0 (by decide)
  · rw [b_203_9, if_pos (by decide)]; rfl
  · intro i hi
    show jx_E 203 9 _ _ _ = jx_E 203 9 [.ref y, .long (bif mm_gap M.2.2.2 i then mz_mkr (mm_gap M.2.2.2) i ||| mz_bit i else mz_mkr (mm_gap M.2.2.2) i), jx_j, .int (nI (i + 1))] [] h1
    rw [b_203_9, if_neg (show ¬ 64 ≤ nI i from nI_ge (b := 64) hi (by decide)), ro_is I1, jx_cI_e (m_159 J1 hi), mm_gap_cong ho hi, nI_1, Int64_or0]
    cases mm_gap M.2.2.2 i with
    | false => rw [if_pos (show bI false = 0 from rfl)]; rfl
    | true => rw [if_neg (by decide)]; rfl
theorem m_204 (I : ro_I h y S th R) (Q : ro_S S M) : rv_P h y S R (jx_A 204 [.ref y] h) (.long (mm_gm M)) := by
  obtain ⟨h1, x1, I1, t1⟩ := m_203 I Q
  exact ⟨h1, by rw [a_204, ro_is I, jx_cL_e x1], I1, t1⟩
theorem m_202 (I : ro_I h y S th R) (Q : ro_S S M) (v : Int32) :
    (∃ v' : Nat, 97 ≤ v' ∧ v' ≤ 102 ∧ v = nI v' ∧ rv_P h y S R (jx_A 202 [.ref y, .int v] h) (.long (mm_cm M v'))) ∨
    ((∀ j : Nat, 97 ≤ j → j ≤ 102 → v ≠ nI j) ∧ ∃ h', jx_A 202 [.ref y, .int v] h = some (.inl (some (.long 0)), h') ∧ ro_I h' y S 1 R ∧ mz_eq y (y + 8) h h') := by
  obtain ⟨p, A, g, B, hF, ho⟩ := Q
  rcases m_150r v h with ⟨v', k1, k2, rfl, q⟩ | ⟨k, q⟩
  · left
    refine ⟨v', k1, k2, rfl, ?_⟩
    obtain ⟨h1, x1, I1, t1⟩ := m_139 I true
    have J1 : rq_J h1 y (ro_fs y 0 R) S M.1 M.2.1 p A g := ⟨I1.1, B⟩
    refine ⟨h1, ?_, I1, t1⟩
    rw [a_202, jx_cI_e q, ro_is I, jx_cI_e (show jx_A 139 [.ref y, .int 1] h = _ from x1)]
    refine mz_inv (γ := Value) (fun i w => jx_E 202 15 [.ref y, .int (nI v'), .long (mz_mkr (fun c => match M.2.2.2 c with | some f => fg_co f == v' | none => false) i), jx_j, .int (bI true), .int (nI i), w] [] h1) (fun _ _ => True) 64 (fun X => X = some (.inl (some (.long (mm_cm M v'))), h1)) ?_ ?_ 0 jx_j (by decide) trivial
    · intro w _
      rw [b_202_15, if_pos (by decide)]; rfl
    · intro i w hi _
      right
      refine ⟨.int (nI (rq_g (g i)) - 1), trivial, ?_⟩
      show jx_E 202 15 _ _ _ = jx_E 202 15 [.ref y, .int (nI v'), .long (bif (match M.2.2.2 i with | some f => fg_co f == v' | none => false) then mz_mkr (fun c => match M.2.2.2 c with | some f => fg_co f == v' | none => false) i ||| mz_bit i else mz_mkr (fun c => match M.2.2.2 c with | some f => fg_co f == v' | none => false) i), jx_j, .int (bI true), .int (nI (i + 1)), .int (nI (rq_g (g i)) - 1)] [] h1
      rw [b_202_15, if_neg (show ¬ 64 ≤ nI i from nI_ge (b := 64) hi (by decide)), if_neg (by decide), ro_0 I1, rq_c J1 hi, ← ho i hi, nI_1, Int64_or0]
      unfold bd_o
      cases eg : g i with
      | none => rw [if_pos (show nI (rq_g none) - 1 < 0 by decide)]; rfl
      | some z =>
        obtain ⟨k, hk, rfl, -⟩ := rq_gs J1 hi eg
        have hn := rq_n J1
        have pk := rq_p J1 (show k < 20 by omega)
        have ok := rq_ok J1 hk
        rw [show nI (rq_g (some (p k))) - 1 = nI (p k) from nI_pred _, if_neg (nI_pos (by omega)), ro_is I1, jx_cI_e (m_140f J1 hk)]
        show _ = jx_E 202 15 [.ref y, .int (nI v'), .long (bif fg_co (A (p k)) == v' then _ else _), jx_j, .int (bI true), .int (nI (i + 1)), .int (nI (p k))] [] h1
        by_cases z : fg_co (A (p k)) = v'
        · rw [if_pos (by rw [z]), z, show (v' == v') = true by simp]; rfl
        · rw [if_neg (fun q => z ((nI_eq (by have := ok.2.1; omega) (by omega)).mp q)), show (fg_co (A (p k)) == v') = false by simpa using z]; rfl
  · right
    refine ⟨k, ?_⟩
    obtain ⟨h1, x1, I1, t1⟩ := m_139 I false
    refine ⟨h1, ?_, I1, t1⟩
    rw [a_202, jx_cI_e q, ro_is I, jx_cI_e (show jx_A 139 [.ref y, .int 0] h = _ from x1), b_202_15, if_neg (by decide), if_pos (show bI false = 0 from rfl)]
end RD
end JX
