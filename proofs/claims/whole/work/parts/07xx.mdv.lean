/-! The other object's largest group, fractions, patterns. -/
section JX
def sp_lg (M : mm_T) (o : q_O) : Prop := ∃ v, mm_lg M.2.2.2 v ∧ v ≤ 64 ∧ o = if v = 0 then .inr eNS else .inl (.int (nI v))
def sp_jf (M : mm_T) (o : q_O) : Prop := o = if mm_pr M 1 + mm_pr M 2 = 0 then .inr eAR else .inl (.float (fq_f (mm_pr M 1) (mm_pr M 1 + mm_pr M 2)))
def sp_jb (M : mm_T) (o : q_O) : Prop := o = if mm_pr M 1 + mm_pr M 2 = 0 then .inr eAR else .inl (.int (fq_f (mm_pr M 1) (mm_pr M 1 + mm_pr M 2)).toInt32)
def sp_mj (M : mm_T) (o : q_O) : Prop := o = if mm_on M = 0 then .inr eAR else .inl (.double (fq_d (mm_pr M 1) (mm_on M)))
section RD
variable {h : jx_H} {y : Nat} {S : Nat → Nat} {R : ro_R} {M : mm_T} {th : Int32} {fs : List Value} {n nx : Nat} {p : Nat → Nat} {A : Nat → fg_T} {g : Nat → Option Nat}
theorem m_217 (I : ro_I h y S th R) (Q : ro_S S M) : rd_Q h y S R (jx_A 217 [.ref y] h) (sp_lg M) ce_1 (.int 0) := by
  obtain ⟨p, A, g, B, hF, ho⟩ := Q
  have J : rq_J h y (ro_fs y th R) S M.1 M.2.1 p A g := ⟨I.1, B⟩
  have hn := rq_n J
  have key : ∃ v, mm_lg M.2.2.2 v ∧ v ≤ 64 ∧ jx_A 217 [.ref y] h = if nI v ≤ 0 then (jx_pt h y 8 6 (.int 1) (fun h1 => some (.inl (some (.int (nI v))), h1))) else (jx_pt h y 8 6 (.int 0) (fun h2 => some (.inl (some (.int (nI v))), h2))) := by
    rw [a_217]
    refine mz_inv (γ := Nat) (fun i v => jx_E 217 4 [.ref y, .int (nI v), .int (nI i)] [] h) (fun i v => (∀ c, c < i → (M.2.2.2 c).isSome = true → mm_gz M.2.2.2 c ≤ v) ∧ v ≤ 64 ∧ (v = 0 ∨ ∃ c, c < i ∧ (M.2.2.2 c).isSome = true ∧ v = mm_gz M.2.2.2 c)) 64 (fun X => ∃ v, mm_lg M.2.2.2 v ∧ v ≤ 64 ∧ X = if nI v ≤ 0 then (jx_pt h y 8 6 (.int 1) (fun h1 => some (.inl (some (.int (nI v))), h1))) else (jx_pt h y 8 6 (.int 0) (fun h2 => some (.inl (some (.int (nI v))), h2)))) ?_ ?_ 0 0 (by decide) ⟨fun c hc => absurd hc (Nat.not_lt_zero _), by decide, Or.inl rfl⟩
    · intro v G
      refine ⟨v, ⟨G.1, G.2.2⟩, G.2.1, ?_⟩
      rw [b_217_4, if_pos (by decide)]
    · intro i v hi G
      right
      have oi := ho i hi
      unfold bd_o at oi
      have E : jx_E 217 4 [.ref y, .int (nI v), .int (nI i)] [] h = if nI (rq_g (g i)) ≤ 0 then (jx_E 217 4 [.ref y, .int (nI v), .int (nI (i + 1))] [] h) else (jx_E 217 4 [.ref y, .int (nI (if v < mm_gz M.2.2.2 i then mm_gz M.2.2.2 i else v)), .int (nI (i + 1))] [] h) := by
        have z1 := mm_gz_1 (o := M.2.2.2) hi
        have mx : jx_A 246 [.int (nI v), .int (nI (mm_gz M.2.2.2 i))] h = some (.inl (some (.int (nI (if v < mm_gz M.2.2.2 i then mm_gz M.2.2.2 i else v)))), h) := by
          rw [a_246]
          by_cases c : v < mm_gz M.2.2.2 i
          · rw [if_pos ((nI_ltI (by have := G.2.1; omega) (by omega)).mpr c), if_pos c]
          · rw [if_neg (fun q => c ((nI_ltI (by have := G.2.1; omega) (by omega)).mp q)), if_neg c]
        rw [b_217_4, if_neg (show ¬ 64 ≤ nI i from nI_ge (b := 64) hi (by decide)), ro_0 I, rq_c J hi, rq_is J, jx_cL_e (m_211 J hi), jx_cI_e (m_212 _ h), mm_gk_cong ho, mm_gz_b, jx_cI_e mx, nI_1]
      show ∃ g', _ ∧ jx_E 217 4 _ _ _ = jx_E 217 4 [.ref y, .int (nI g'), .int (nI (i + 1))] [] h
      rw [E]
      cases eg : g i with
      | none =>
        rw [eg] at oi
        have oi : M.2.2.2 i = none := oi.symm
        refine ⟨v, ⟨fun c hc e => ?_, G.2.1, ?_⟩, if_pos (show nI (rq_g none) ≤ 0 by decide)⟩
        · have ne : c ≠ i := fun q => by rw [q, oi] at e; cases e
          exact G.1 c (by omega) e
        · rcases G.2.2 with q | ⟨c, hc, q⟩
          · exact Or.inl q
          · exact Or.inr ⟨c, by omega, q⟩
      | some z =>
        obtain ⟨k, hk, rfl, -⟩ := rq_gs J hi eg
        have pk := rq_p J (show k < 20 by omega)
        rw [eg] at oi
        have oi : M.2.2.2 i = some (A (p k)) := oi.symm
        have z1 := mm_gz_1 (o := M.2.2.2) hi
        refine ⟨if v < mm_gz M.2.2.2 i then mm_gz M.2.2.2 i else v, ⟨fun c hc e => ?_, ?_, ?_⟩, if_neg (show ¬ nI (rq_g (some (p k))) ≤ 0 from (show ¬ nI (p k + 1) ≤ 0 from nI_nle (Nat.succ_pos _) (by omega)))⟩
        · by_cases q : c = i
          · subst q; split <;> omega
          · have := G.1 c (by omega) e
            split <;> omega
        · have := G.2.1
          split <;> omega
        · by_cases w : v < mm_gz M.2.2.2 i
          · rw [if_pos w]; exact Or.inr ⟨i, Nat.lt_succ_self i, by rw [oi]; rfl, rfl⟩
          · rw [if_neg w]
            rcases G.2.2 with q | ⟨c, hc, q⟩
            · exact Or.inl q
            · exact Or.inr ⟨c, by omega, q⟩
  obtain ⟨v, lg, le, E⟩ := key
  by_cases z : v = 0
  · obtain ⟨h1, x1, I1, t1⟩ := ro_pth I 1
    refine ⟨.inr eNS, h1, ⟨v, lg, le, by rw [if_pos z]⟩, t1, ?_, I1⟩
    rw [E, z, if_pos (by decide), x1]; rfl
  · obtain ⟨h1, x1, I1, t1⟩ := ro_pth I 0
    refine ⟨.inl (.int (nI v)), h1, ⟨v, lg, le, by rw [if_neg z]⟩, t1, ?_, I1⟩
    rw [E, if_neg (nI_nle (by omega) (by omega)), x1]
theorem m_218 (I : ro_I h y S th R) (Q : ro_S S M) : rd_Q h y S R (jx_A 218 [.ref y] h) (sp_jf M) ce_1 (.float FP.fconst0) := by
  obtain ⟨p, A, g, B, hF, ho⟩ := Q
  have J : rq_J h y (ro_fs y th R) S M.1 M.2.1 p A g := ⟨I.1, B⟩
  have hn := rq_n J
  have l := mm_pr_2 M hn
  have E : jx_A 218 [.ref y] h = if nI (mm_pr M 1 + mm_pr M 2) ≤ 0 then (jx_cI jx_A 139 [.ref y, .int 0] h (fun y6 h5 => if y6 = 0 then (some (.inl (some (.float FP.fconst0)), h5)) else (jx_n32 (fq_f (mm_pr M 1) (mm_pr M 1 + mm_pr M 2)) (some (.inl (some (.float (fq_f (mm_pr M 1) (mm_pr M 1 + mm_pr M 2)))), h5))))) else (jx_cI jx_A 139 [.ref y, .int 1] h (fun y8 h7 => if y8 = 0 then (some (.inl (some (.float FP.fconst0)), h7)) else (jx_n32 (fq_f (mm_pr M 1) (mm_pr M 1 + mm_pr M 2)) (some (.inl (some (.float (fq_f (mm_pr M 1) (mm_pr M 1 + mm_pr M 2)))), h7))))) := by
    rw [a_218, rq_is J, jx_cI_e (show jx_A 157 [.ref y, .int 1] h = _ from m_157M J hF ho true), rq_is J, jx_cI_e (show jx_A 157 [.ref y, .int (-1)] h = _ from m_157M J hF ho false), rq_is J, rq_is J]
    show (if nI (mm_pr M 1) + nI (mm_pr M 2) ≤ 0 then (jx_cI jx_A 139 [.ref y, .int 0] h (fun y6 h5 => if y6 = 0 then (some (.inl (some (.float FP.fconst0)), h5)) else (jx_n32 (FP.fdiv (FP.i2f (nI (mm_pr M 1))) (FP.i2f (nI (mm_pr M 1) + nI (mm_pr M 2)))) (some (.inl (some (.float (FP.fdiv (FP.i2f (nI (mm_pr M 1))) (FP.i2f (nI (mm_pr M 1) + nI (mm_pr M 2)))))), h5))))) else (jx_cI jx_A 139 [.ref y, .int 1] h (fun y8 h7 => if y8 = 0 then (some (.inl (some (.float FP.fconst0)), h7)) else (jx_n32 (FP.fdiv (FP.i2f (nI (mm_pr M 1))) (FP.i2f (nI (mm_pr M 1) + nI (mm_pr M 2)))) (some (.inl (some (.float (FP.fdiv (FP.i2f (nI (mm_pr M 1))) (FP.i2f (nI (mm_pr M 1) + nI (mm_pr M 2)))))), h7)))))) = _
    rw [nI_add]
    rfl
  by_cases z : mm_pr M 1 + mm_pr M 2 = 0
  · obtain ⟨h1, x1, I1, t1⟩ := m_139 I false
    refine ⟨.inr eAR, h1, by unfold sp_jf; rw [if_pos z], t1, ?_, I1⟩
    rw [E, if_pos (by rw [z]; decide), jx_cI_e (show jx_A 139 [.ref y, .int 0] h = _ from x1), if_pos (show bI false = 0 from rfl)]
  · obtain ⟨h1, x1, I1, t1⟩ := m_139 I true
    refine ⟨.inl (.float (fq_f (mm_pr M 1) (mm_pr M 1 + mm_pr M 2))), h1, by unfold sp_jf; rw [if_neg z], t1, ?_, I1⟩
    rw [E, if_neg (nI_nle (by omega) (by omega)), jx_cI_e (show jx_A 139 [.ref y, .int 1] h = _ from x1), if_neg (by decide), jx_n32_e (fq_at (by omega) (by omega) l).1]
theorem m_219 (I : ro_I h y S th R) (Q : ro_S S M) : rd_Q h y S R (jx_A 219 [.ref y] h) (sp_jb M) ce_1 (.int 0) := by
  have hn : M.1 ≤ 20 := by obtain ⟨p, A, g, B, hF, ho⟩ := Q; exact B.2.2.2.2.1
  have l := mm_pr_2 M hn
  obtain ⟨o, h1, q, t1, e⟩ := m_218 I Q
  unfold sp_jf at q
  by_cases z : mm_pr M 1 + mm_pr M 2 = 0
  · rw [if_pos z] at q
    subst q
    obtain ⟨x1, I1⟩ := e
    refine ⟨.inr eAR, h1, by unfold sp_jb; rw [if_pos z], t1, ?_, I1⟩
    rw [a_219, ro_is I, jx_cF_e x1, ro_6 I1, if_neg (show ¬ ce_1 eAR ≤ 0 by decide)]
  · rw [if_neg z] at q
    subst q
    obtain ⟨x1, I1⟩ := e
    obtain ⟨-, -, -, f4, -⟩ := fq_at (j := mm_pr M 1) (a := mm_pr M 1 + mm_pr M 2) (by omega) (by omega) l
    have e2 : jx_A 242 [.float (fq_f (mm_pr M 1) (mm_pr M 1 + mm_pr M 2))] h1 = some (.inl (some (.int 0)), h1) := by rw [a_242, if_pos f4]
    have e3 : jx_A 243 [.float (fq_f (mm_pr M 1) (mm_pr M 1 + mm_pr M 2))] h1 = some (.inl (some (.int (fq_f (mm_pr M 1) (mm_pr M 1 + mm_pr M 2)).toInt32)), h1) := by rw [a_243, jx_cI_e e2, if_pos rfl]
    refine ⟨.inl (.int (fq_f (mm_pr M 1) (mm_pr M 1 + mm_pr M 2)).toInt32), h1, by unfold sp_jb; rw [if_neg z], t1, ?_, I1⟩
    rw [a_219, ro_is I, jx_cF_e x1, ro_6 I1, if_pos (by decide), jx_cI_e e3]
theorem mm_on_lo (M : mm_T) : mm_on M + mm_lo M = M.1 := mz_su_not (fun k => fg_on (M.2.2.1 k)) M.1
theorem m_220 (I : ro_I h y S th R) (Q : ro_S S M) : rd_Q h y S R (jx_A 220 [.ref y] h) (sp_mj M) ce_1 (.double FP.dconst0) := by
  obtain ⟨p, A, g, B, hF, ho⟩ := Q
  have J : rq_J h y (ro_fs y th R) S M.1 M.2.1 p A g := ⟨I.1, B⟩
  have hn := rq_n J
  have l := mm_pr_2 M hn
  have onlo := mm_on_lo M
  have m148 := m_148 J false
  rw [show mz_su (fun k => (bif false then !fg_on (A (p k)) else true).toNat) M.1 = M.1 from mz_su_one M.1] at m148
  have m148 : jx_A 148 [.ref y, .int 0] h = some (.inl (some (.int (nI M.1))), h) := m148
  have m148t := m_148 J true
  rw [show mz_su (fun k => (bif true then !fg_on (A (p k)) else true).toNat) M.1 = mm_lo M from mz_su_cong (fun k hk => by show (!fg_on (A (p k))).toNat = (!fg_on (M.2.2.1 k)).toNat; rw [hF k hk])] at m148t
  have m148t : jx_A 148 [.ref y, .int 1] h = some (.inl (some (.int (nI (mm_lo M)))), h) := m148t
  have sub : nI M.1 - nI (mm_lo M) = nI (mm_on M) := by rw [← onlo, Nat.add_comm, nI_sub]
  by_cases z : mm_on M = 0
  · obtain ⟨h1, x1, I1, t1⟩ := m_139 I false
    refine ⟨.inr eAR, h1, by unfold sp_mj; rw [if_pos z], t1, ?_, I1⟩
    rw [a_220, rq_is J, jx_cI_e m148, rq_is J, jx_cI_e m148t, sub, if_pos (by rw [z]; decide), rq_is J, jx_cI_e (show jx_A 139 [.ref y, .int 0] h = _ from x1), if_pos (show bI false = 0 from rfl)]
  · obtain ⟨h1, x1, I1, t1⟩ := m_139 I true
    have J1 : rq_J h1 y (ro_fs y 0 R) S M.1 M.2.1 p A g := ⟨I1.1, B⟩
    refine ⟨.inl (.double (fq_d (mm_pr M 1) (mm_on M))), h1, by unfold sp_mj; rw [if_neg z], t1, ?_, I1⟩
    rw [a_220, rq_is J, jx_cI_e m148, rq_is J, jx_cI_e m148t, sub, if_neg (nI_nle (by omega) (by omega)), rq_is J, jx_cI_e (show jx_A 139 [.ref y, .int 1] h = _ from x1), if_neg (by decide), rq_is J1, jx_cI_e (show jx_A 157 [.ref y, .int 1] h1 = _ from m_157M J1 hF ho true)]
    show jx_n64 (fq_d (mm_pr M 1) (mm_on M)) _ = _
    rw [jx_n64_e (fd_at (by omega) (by omega) (by omega)).1]
    rfl
/-- different patterns -/
theorem m_173 (I : ro_I h y S th R) (Q : ro_S S M) : rv_P h y S R (jx_A 173 [.ref y] h) (.int (nI (mm_dp M))) := by
  obtain ⟨p, A, g, B, hF, ho⟩ := Q
  obtain ⟨h1, x1, I1, t1⟩ := ro_pth I 0
  have J1 : rq_J h1 y (ro_fs y 0 R) S M.1 M.2.1 p A g := ⟨I1.1, B⟩
  have W := rq_W J1
  have hn := rq_n J1
  obtain ⟨q, hq⟩ := mz_inv_p (fun k hk => rq_p J1 hk) W.1
  refine ⟨h1, ?_, I1, t1⟩
  rw [a_173, x1]
  refine mz_inv (γ := Int32 × Value) (fun i z => jx_E 173 9 [.ref y, .int z.1, .int (nI i), z.2] [] h1) (fun i z => ∀ c, c < 16 → ib z.1 c = mz_ex (fun j => Nat.blt (q j) M.1 && mz_ex (fun s => fg_ed (A j) s == c) 4) i) 20 (fun X => X = some (.inl (some (.int (nI (mm_dp M)))), h1)) ?_ ?_ 0 (0, jx_j) (by decide) (fun c _ => ib_0 c)
  · rintro ⟨m, v⟩ G
    show jx_E 173 9 _ _ _ = _
    rw [b_173_9, if_pos (by decide)]
    refine mz_lp (fun i => jx_E 173 59 [.ref y, .int m, .int (nI (mz_su (fun c => (mm_has M c).toNat) i)), .int (nI i)] [] h1) 16 _ ?_ ?_ 0 (by decide)
    · rw [b_173_59, if_pos (by decide)]; rfl
    · intro i hi
      have e : ib m i = mm_has M i := by
        rw [G i hi, Bool.eq_iff_iff]
        unfold mm_has
        rw [mz_ex_iff, mz_ex_iff]
        constructor
        · rintro ⟨j, hj, e⟩
          obtain ⟨e1, e2⟩ := Bool.and_eq_true_iff.mp e
          have k1 := Nat.blt_eq.mp e1
          refine ⟨q j, k1, ?_⟩
          rw [← hF _ k1, (hq j hj).2]; exact e2
        · rintro ⟨k, hk, e⟩
          have pk := rq_p J1 (show k < 20 by omega)
          have qk : q (p k) = k := W.1 _ _ (hq _ pk).1 (by omega) (hq _ pk).2
          exact ⟨p k, pk, by rw [qk, Nat_blt_t hk, hF k hk]; exact e⟩
      show jx_E 173 59 _ _ _ = jx_E 173 59 [.ref y, .int m, .int (nI (mz_su (fun c => (mm_has M c).toNat) i + (mm_has M i).toNat)), .int (nI (i + 1))] [] h1
      rw [b_173_59, if_neg (show ¬ 16 ≤ nI i from nI_ge (b := 16) hi (by decide)), ib_shr (by omega), e, nI_add, nI_1]
  · rintro i ⟨m, v⟩ hi G
    right
    have G : ∀ c, c < 16 → ib m c = _ := G
    obtain ⟨q1, q2⟩ := hq i hi
    show ∃ z', _ ∧ jx_E 173 9 [.ref y, .int m, .int (nI i), v] [] h1 = jx_E 173 9 _ _ _
    rw [b_173_9, if_neg (show ¬ 20 ≤ nI i from nI_ge (b := 20) hi (by decide))]
    have x2 := m_142 J1 q1
    rw [q2] at x2
    by_cases c : q i < M.1
    · rw [Nat_blt_t c] at x2
      have key : ∃ m', (∀ c, c < 16 → ib m' c = (ib m c || mz_ex (fun s => fg_ed (A i) s == c) 4)) ∧ jx_E 173 17 [.ref y, .int m, .int (nI i), .int 0] [] h1 = jx_E 173 9 [.ref y, .int m', .int (nI (i + 1)), .int 4] [] h1 := by
        refine mz_inv (γ := Int32) (fun s m' => jx_E 173 17 [.ref y, .int m', .int (nI i), .int (nI s)] [] h1) (fun s m' => ∀ c, c < 16 → ib m' c = (ib m c || mz_ex (fun s => fg_ed (A i) s == c) s)) 4 (fun X => ∃ m', (∀ c, c < 16 → ib m' c = (ib m c || mz_ex (fun s => fg_ed (A i) s == c) 4)) ∧ X = jx_E 173 9 [.ref y, .int m', .int (nI (i + 1)), .int 4] [] h1) ?_ ?_ 0 m (by decide) (fun c _ => (Bool.or_false _).symm)
        · intro m' G'
          refine ⟨m', G', ?_⟩
          rw [b_173_17, if_pos (by decide), nI_1]; rfl
        · intro s m' hs G'
          right
          have ok := rq_ok J1 c
          rw [q2] at ok
          have e140 := m_140k J1 c (w := 2 + s) (by omega)
          rw [q2] at e140
          have w2 : fg_w (A i) (2 + s) = fg_ed (A i) s := by
            match s, hs with
            | 0, _ => rfl
            | 1, _ => rfl
            | 2, _ => rfl
            | 3, _ => rfl
          rw [w2] at e140
          refine ⟨m' ||| (1 <<< (nI (fg_ed (A i) s) &&& 31)), fun c hc => ?_, ?_⟩
          · rw [ib_or, G' c hc, ib_bit (ok.2.2.1 s), Bool.or_assoc]
            rfl
          · show jx_E 173 17 _ _ _ = jx_E 173 17 _ _ _
            rw [b_173_17, if_neg (show ¬ 4 ≤ nI s from nI_ge (b := 4) hs (by decide)), ro_is I1, jx_cI_e x2, if_neg (show ¬ bI true = 0 by decide), ro_is I1, show (2 : Int32) + nI s = nI (2 + s) from nI_add 2 s, jx_cI_e e140, nI_1]
      obtain ⟨m', G', E'⟩ := key
      refine ⟨(m', .int 4), fun c2 hc => ?_, E'⟩
      show ib m' c2 = (mz_ex _ i || (Nat.blt (q i) M.1 && mz_ex (fun s => fg_ed (A i) s == c2) 4))
      rw [G' c2 hc, G c2 hc, Nat_blt_t c, Bool.true_and]
    · rw [Nat_blt_f (show M.1 ≤ q i by omega)] at x2
      refine ⟨(m, .int 0), fun c2 hc => ?_, ?_⟩
      · show ib m c2 = (mz_ex _ i || (Nat.blt (q i) M.1 && mz_ex (fun s => fg_ed (A i) s == c2) 4))
        rw [G c2 hc, Nat_blt_f (show M.1 ≤ q i by omega), Bool.false_and, Bool.or_false]
      · rw [b_173_17, if_neg (by decide), ro_is I1, jx_cI_e x2, if_pos (show bI false = 0 from rfl), nI_1]
end RD
end JX
