/-! The board: adding, dropping, copying. -/
section JX
section BD
variable {xs : List Int32} {h : jx_H} {a : Nat} {M : mm_T}
theorem m_6 (R : bd_R h a M) (hx : M.2.1 + 1 < 2 ^ 30) (c n e s w : Int32) : bd_C h a (jx_A 6 [.ref a, .int c, .int n, .int e, .int s, .int w] h) (ok_add M c n e s w) (no_add M c n e s w) := by
  obtain ⟨p, A, g, H, W, hF, ho⟩ := R
  have hn := bd_n20 H
  rcases m_127r c h with ⟨c', c1, c2, rfl, q1⟩ | ⟨ht, q1⟩
  · rcases m_126r n 15 (by decide) h with ⟨n', n1, rfl, q2⟩ | ⟨ht, q2⟩
    · rcases m_126r e 15 (by decide) h with ⟨e', e1, rfl, q3⟩ | ⟨ht, q3⟩
      · rcases m_126r s 15 (by decide) h with ⟨s', s1, rfl, q4⟩ | ⟨ht, q4⟩
        · rcases m_126r w 15 (by decide) h with ⟨w', w1, rfl, q5⟩ | ⟨ht, q5⟩
          · by_cases hm : M.1 < 20
            · have hp : p M.1 < 20 := H.2.2.2.2.2.2.1 _ hm
              obtain ⟨h1, x1, H1, t1⟩ := bd_pid H hp (v := M.2.1) (by omega)
              obtain ⟨h2, x2, H2, t2⟩ := bd_pco H1 hp (v := c') (by omega)
              obtain ⟨h3, x3, H3, t3⟩ := bd_ped H2 hp (k := 0) (v := n') (by decide) (by omega)
              obtain ⟨h4, x4, H4, t4⟩ := bd_ped H3 hp (k := 1) (v := e') (by decide) (by omega)
              obtain ⟨h5, x5, H5, t5⟩ := bd_ped H4 hp (k := 2) (v := s') (by decide) (by omega)
              obtain ⟨h6, x6, H6, t6⟩ := bd_ped H5 hp (k := 3) (v := w') (by decide) (by omega)
              obtain ⟨h7, x7, H7, t7⟩ := bd_ptn H6 hp (v := 0) (by decide)
              obtain ⟨h8, x8, H8, t8⟩ := bd_pce H7 hp (v := 0) (by decide) (w := -1) (by decide)
              obtain ⟨h9, x9, H9, t9⟩ := bd_pn H8 (v := M.1 + 1) (by omega)
              obtain ⟨hA, xA, HA, tA⟩ := bd_pnx H9 (v := M.2.1 + 1) hx
              have HB := HA
              simp only [mz_up_s, mz_up_up] at HB
              have TT := mz_eq_tr (mz_eq_tr (mz_eq_tr (mz_eq_tr (mz_eq_tr t1 t2) (mz_eq_tr t3 t4)) (mz_eq_tr t5 t6)) (mz_eq_tr t7 t8)) (mz_eq_tr t9 tA)
              have hx16 : 0 ≤ nI c' ∧ nI c' < 65536 := ⟨nI_pos' (by omega), nI_lt (b := 65536) (by omega) (by decide)⟩
              refine ⟨nI M.2.1, Or.inl ⟨mm_add M c' n' e' s' w', hA, ⟨c', n', e', s', w', ⟨rfl, c1, c2⟩, ⟨rfl, n1⟩, ⟨rfl, e1⟩, ⟨rfl, s1⟩, ⟨rfl, w1⟩, hm, rfl, rfl⟩, ?_, ⟨p, _, g, HB, ?_, fun k hk => ?_, fun d hd => ?_⟩, TT⟩⟩
              · rw [a_6, jx_cI_e q1, if_neg (by decide), jx_cI_e (show jx_A 126 [.int (nI n'), .int 15] h = _ from q2), if_neg (by decide), jx_cI_e (show jx_A 126 [.int (nI e'), .int 15] h = _ from q3), if_neg (by decide), jx_cI_e (show jx_A 126 [.int (nI s'), .int 15] h = _ from q4), if_neg (by decide), jx_cI_e (show jx_A 126 [.int (nI w'), .int 15] h = _ from q5), if_neg (by decide), bd_n H, if_pos (show nI M.1 < (20 : Int32) from nI_lt (b := 20) hm (by decide)), bd_fr H, bd_n H, bd_at H hm, bd_nx H, x1, if_pos hx16, x2, bd_fed H2 hp]
                rw [show jx_st h2 (bd_f a (p M.1) + 1) 100 0 (.int (nI n')) = jx_st h2 (bd_f a (p M.1) + 1) 100 (nI 0) (.int (nI n')) from rfl, x3, bd_fed H3 hp]
                rw [show jx_st h3 (bd_f a (p M.1) + 1) 100 1 (.int (nI e')) = jx_st h3 (bd_f a (p M.1) + 1) 100 (nI 1) (.int (nI e')) from rfl, x4, bd_fed H4 hp]
                rw [show jx_st h4 (bd_f a (p M.1) + 1) 100 2 (.int (nI s')) = jx_st h4 (bd_f a (p M.1) + 1) 100 (nI 2) (.int (nI s')) from rfl, x5, bd_fed H5 hp]
                rw [show jx_st h5 (bd_f a (p M.1) + 1) 100 3 (.int (nI w')) = jx_st h5 (bd_f a (p M.1) + 1) 100 (nI 3) (.int (nI w')) from rfl, x6]
                rw [show jx_pt h6 (bd_f a (p M.1)) 2 3 (.int 0) = jx_pt h6 (bd_f a (p M.1)) 2 3 (.int (nI 0)) from rfl, x7, x8, bd_n H8, nI_1, x9, bd_nx H9, nI_1, xA, bd_fid HA hp]
                simp only [mz_up_s, mz_up_up]
                rfl
              · refine ⟨W.1, fun d i hd eg => ?_, fun k d hk ee => ?_⟩
                · obtain ⟨w1, k, hk, rfl⟩ := W.2.1 d i hd eg
                  rw [mz_up_n (fun z => by have := W.1 k M.1 (by omega) hm z; omega)]
                  exact ⟨w1, k, by show k < M.1 + 1; omega, rfl⟩
                · by_cases q : k = M.1
                  · subst q; rw [mz_up_s] at ee; cases ee
                  · have hk' : k < M.1 := by have : k < M.1 + 1 := hk; omega
                    rw [mz_up_n (fun z => q (W.1 k M.1 (by omega) hm z))] at ee
                    exact W.2.2 k d hk' ee
              · show _ = mz_up M.2.2.1 M.1 _ k
                by_cases q : k = M.1
                · subst q; rw [mz_up_s, mz_up_s]; rfl
                · have hk' : k < M.1 := by have : k < M.1 + 1 := hk; omega
                  rw [mz_up_n q, mz_up_n (fun z => q (W.1 k M.1 (by omega) hm z))]
                  exact hF k hk'
              · show _ = M.2.2.2 d
                rw [← ho d hd]
                unfold bd_o
                cases eg : g d with
                | none => rfl
                | some i =>
                  obtain ⟨w1, k, hk, rfl⟩ := W.2.1 d i hd eg
                  show some _ = some _
                  rw [mz_up_n (fun z => by have := W.1 k M.1 (by omega) hm z; omega)]
            · refine ⟨-4, Or.inr ⟨Or.inr ⟨⟨c', c1, c2, rfl⟩, ⟨n', n1, rfl⟩, ⟨e', e1, rfl⟩, ⟨s', s1, rfl⟩, ⟨w', w1, rfl⟩, by omega, rfl⟩, ?_⟩⟩
              rw [a_6, jx_cI_e q1, if_neg (by decide), jx_cI_e (show jx_A 126 [.int (nI n'), .int 15] h = _ from q2), if_neg (by decide), jx_cI_e (show jx_A 126 [.int (nI e'), .int 15] h = _ from q3), if_neg (by decide), jx_cI_e (show jx_A 126 [.int (nI s'), .int 15] h = _ from q4), if_neg (by decide), jx_cI_e (show jx_A 126 [.int (nI w'), .int 15] h = _ from q5), if_neg (by decide), bd_n H, if_neg (show ¬ nI M.1 < (20 : Int32) from nI_nlt (b := 20) (by omega) (by omega))]
          · refine ⟨-3, Or.inr ⟨Or.inl ⟨Or.inr (Or.inr (Or.inr (Or.inr ht))), rfl⟩, ?_⟩⟩
            rw [a_6, jx_cI_e q1, if_neg (by decide), jx_cI_e (show jx_A 126 [.int (nI n'), .int 15] h = _ from q2), if_neg (by decide), jx_cI_e (show jx_A 126 [.int (nI e'), .int 15] h = _ from q3), if_neg (by decide), jx_cI_e (show jx_A 126 [.int (nI s'), .int 15] h = _ from q4), if_neg (by decide), jx_cI_e (show jx_A 126 [.int w, .int 15] h = _ from q5), if_pos rfl]
        · refine ⟨-3, Or.inr ⟨Or.inl ⟨Or.inr (Or.inr (Or.inr (Or.inl ht))), rfl⟩, ?_⟩⟩
          rw [a_6, jx_cI_e q1, if_neg (by decide), jx_cI_e (show jx_A 126 [.int (nI n'), .int 15] h = _ from q2), if_neg (by decide), jx_cI_e (show jx_A 126 [.int (nI e'), .int 15] h = _ from q3), if_neg (by decide), jx_cI_e (show jx_A 126 [.int s, .int 15] h = _ from q4), if_pos rfl]
      · refine ⟨-3, Or.inr ⟨Or.inl ⟨Or.inr (Or.inr (Or.inl ht)), rfl⟩, ?_⟩⟩
        rw [a_6, jx_cI_e q1, if_neg (by decide), jx_cI_e (show jx_A 126 [.int (nI n'), .int 15] h = _ from q2), if_neg (by decide), jx_cI_e (show jx_A 126 [.int e, .int 15] h = _ from q3), if_pos rfl]
    · refine ⟨-3, Or.inr ⟨Or.inl ⟨Or.inr (Or.inl ht), rfl⟩, ?_⟩⟩
      rw [a_6, jx_cI_e q1, if_neg (by decide), jx_cI_e (show jx_A 126 [.int n, .int 15] h = _ from q2), if_pos rfl]
  · refine ⟨-3, Or.inr ⟨Or.inl ⟨Or.inl ht, rfl⟩, ?_⟩⟩
    rw [a_6, jx_cI_e q1, if_pos rfl]
/-- the pieces behind place k, moved ahead as far as place i -/
def bd_sh (p : Nat → Nat) (k i : Nat) : Nat → Nat := fun j => if k ≤ j ∧ j < i then p (j + 1) else p j
theorem m_7 (R : bd_R h a M) (v : Int32) : bd_C h a (jx_A 7 [.ref a, .int v] h) (ok_drop M v) (no_drop M v) := by
  obtain ⟨p, A, g, H, W, hF, ho⟩ := R
  obtain ⟨o, hfd, e2⟩ := m_2 H v
  have hfd' : mm_fd M v o := bd_fd_cong hF hfd
  have hn := bd_n20 H
  cases o with
  | none =>
    refine ⟨-1, Or.inr ⟨Or.inl ⟨hfd', rfl⟩, ?_⟩⟩
    rw [a_7, bd_is H, jx_cI_e e2, if_pos rfl]
  | some k =>
    have hk : k < M.1 := hfd.1
    have hp := bd_p H hk
    have e2' : jx_A 2 [.ref a, .int v] h = some (.inl (some (.int (nI k))), h) := e2
    cases ec : fg_on (A (p k)) with
    | true =>
      refine ⟨-4, Or.inr ⟨Or.inr ⟨k, hfd', by rw [← hF k hk]; exact ec, rfl⟩, ?_⟩⟩
      rw [a_7, bd_is H, jx_cI_e e2', if_neg (mz_nIne (by omega)), bd_fr H, bd_at H (by omega), bd_fis H hp, jx_cI_e (m_21 H hp), ec, if_neg (by decide)]
    | false =>
      have hce := fg_on_0.mp ec
      obtain ⟨m, hm⟩ : ∃ m, M.1 = m + 1 := ⟨M.1 - 1, by omega⟩
      obtain ⟨h1, w1, H1, t1⟩ := bd_pn H (v := m) (by omega)
      have key := mz_inv (γ := jx_H) (fun i u => jx_E 7 43 [.ref a, .int v, .int (nI k), .ref (bd_f a (p k)), .int (nI i)] [] u) (fun i u => k ≤ i ∧ bd_I u a m M.2.1 (bd_sh p k i) A g ∧ mz_eq a (a + 43) h u) m
        (fun X => ∃ h', X = some (.inl (some (.int (nI m))), h') ∧ bd_I h' a m M.2.1 (mz_up (bd_sh p k m) m (p k)) A g ∧ mz_eq a (a + 43) h h')
        (fun u hu => by
          obtain ⟨-, Hu, tu⟩ := hu
          obtain ⟨h2, w2, H2, t2⟩ := bd_pp Hu (k := m) (i := p k) (by omega) hp
          refine ⟨h2, ?_, H2, mz_eq_tr tu t2⟩
          show jx_E 7 43 _ _ _ = _
          rw [b_7_43, bd_n Hu, if_pos (nI_le (Nat.le_refl _) (by omega)), bd_fr Hu, bd_n Hu, bd_fis Hu hp, w2, bd_n H2])
        (fun i u hi hu => by
          obtain ⟨hki, Hu, tu⟩ := hu
          have hp1 : p (i + 1) < 20 := bd_p H (by omega)
          have e5 : bd_sh p k i (i + 1) = p (i + 1) := by unfold bd_sh; rw [if_neg (by omega)]
          obtain ⟨h2, w2, H2, t2⟩ := bd_pp Hu (k := i) (i := p (i + 1)) (by omega) hp1
          have e6 : mz_up (bd_sh p k i) i (p (i + 1)) = bd_sh p k (i + 1) := by
            funext j
            unfold mz_up bd_sh
            by_cases q : j = i
            · subst q; rw [if_pos rfl, if_pos (by omega)]
            · rw [if_neg q]
              by_cases q2 : k ≤ j ∧ j < i
              · rw [if_pos q2, if_pos (by omega)]
              · rw [if_neg q2, if_neg (by omega)]
          rw [e6] at H2
          refine Or.inr ⟨h2, ⟨by omega, H2, mz_eq_tr tu t2⟩, ?_⟩
          show jx_E 7 43 _ _ _ = jx_E 7 43 _ _ _
          rw [b_7_43, bd_n Hu, if_neg (nI_ge hi (by omega)), bd_fr Hu, bd_fr Hu, nI_1, bd_at Hu (by omega), e5, bd_fis Hu hp1, w2]) k h1 (by omega) ⟨Nat.le_refl _, by
          have : bd_sh p k k = p := by
            funext j
            unfold bd_sh
            rw [if_neg (by omega)]
          rw [this]; exact H1, t1⟩
      obtain ⟨h2, w2, H2, t2⟩ := key
      have pj : ∀ j, j < m → mz_up (bd_sh p k m) m (p k) j = p (if j < k then j else j + 1) := fun j hj => by
        unfold mz_up bd_sh
        rw [if_neg (by omega)]
        by_cases q : j < k
        · rw [if_neg (by omega), if_pos q]
        · rw [if_pos (by omega), if_neg q]
      refine ⟨nI m, Or.inl ⟨mm_drop M k, h2, ⟨k, hfd', by rw [← hF k hk]; exact ec, by rw [hm]; rfl, rfl⟩, ?_, ⟨_, A, g, by show bd_I h2 a (M.1 - 1) _ _ _ _; rw [hm]; exact H2, ?_, fun j hj => ?_, fun d hd => ho d hd⟩, t2⟩⟩
      · rw [a_7, bd_is H, jx_cI_e e2', if_neg (mz_nIne (by omega)), bd_fr H, bd_at H (by omega), bd_fis H hp, jx_cI_e (m_21 H hp), ec, if_pos (by decide), bd_n H, hm, nI_pred, w1]
        exact w2
      · refine ⟨fun i j hi hj e => ?_, fun d i hd eg => ?_, fun j d hj ee => ?_⟩
        · have pp : ∀ j, mz_up (bd_sh p k m) m (p k) j = p (if j < m then (if j < k then j else j + 1) else (if j = m then k else j)) := fun j => by
            by_cases q : j < m
            · rw [pj j q, if_pos q]
            · rw [if_neg q]
              unfold mz_up bd_sh
              by_cases q2 : j = m
              · rw [if_pos q2, if_pos q2]
              · rw [if_neg q2, if_neg q2, if_neg (by omega)]
          rw [pp i, pp j] at e
          have := W.1 _ _ (by split <;> (try split) <;> omega) (by split <;> (try split) <;> omega) e
          (repeat' split at this) <;> omega
        · obtain ⟨w5, j, hj, rfl⟩ := W.2.1 d i hd eg
          have hjk : j ≠ k := fun z => by subst z; omega
          refine ⟨w5, if j < k then j else j - 1, by show _ < M.1 - 1; split <;> omega, ?_⟩
          rw [pj _ (by split <;> omega)]
          congr 1
          by_cases q : j < k
          · rw [if_pos q, if_pos q]
          · rw [if_neg q, if_neg (by omega)]; omega
        · have hj' : j < m := by have : j < M.1 - 1 := hj; omega
          rw [pj j hj'] at ee ⊢
          exact W.2.2 _ d (by split <;> omega) ee
      · have hj' : j < m := by have : j < M.1 - 1 := hj; omega
        show _ = mm_del M.2.2.1 k j
        rw [pj j hj']
        unfold mm_del
        by_cases q : j < k
        · rw [if_pos q, if_pos q]; exact hF j (by omega)
        · rw [if_neg q, if_neg q]; exact hF (j + 1) (by omega)
def fg_ses (f e : fg_T) : fg_T := (f.1, f.2.1, e.2.2.1, e.2.2.2.1, e.2.2.2.2.1, e.2.2.2.2.2.1, f.2.2.2.2.2.2)
theorem bd_sES {n nx : Nat} {p : Nat → Nat} {A : Nat → fg_T} {g : Nat → Option Nat} (H : bd_I h a n nx p A g) {i : Nat} (hi : i < 20) {e : fg_T} (he : ∀ k, fg_ed e k < 16) : bd_I (jx_set h (bd_f a i + 1) (fg_E e)) a n nx p (mz_up A i (fg_ses (A i) e)) g ∧ mz_eq a (a + 43) h (jx_set h (bd_f a i + 1) (fg_E e)) := by
  have k := bd_ok H hi
  exact bd_sE H hi (f := fg_ses (A i) e) ⟨k.1, k.2.1, he, k.2.2.2⟩ rfl
/-- one fragment's picture put over another one's, of another board -/
theorem m_23 {b n nx n' nx' : Nat} {p p' : Nat → Nat} {A B : Nat → fg_T} {g g' : Nat → Option Nat} (H : bd_I h a n nx p A g) (H' : bd_I h b n' nx' p' B g') (hd : a + 43 ≤ b ∨ b + 43 ≤ a) {i j : Nat} (hi : i < 20) (hj : j < 20) :
    ∃ h', jx_A 23 [.ref (bd_f a i), .ref (bd_f b j)] h = some (.inl none, h') ∧ bd_I h' a n nx p (mz_up A i (B j)) g ∧ mz_eq a (a + 43) h h' := by
  have ok := bd_ok H' hj
  have hdd : b + 43 ≤ a ∨ a + 43 ≤ b := hd.symm
  obtain ⟨h1, x1, H1, t1⟩ := bd_pid H hi (v := fg_id (B j)) ok.1
  have G1 := bd_eq H' t1 hdd
  obtain ⟨h2, x2, H2, t2⟩ := bd_pco H1 hi (v := fg_co (B j)) ok.2.1
  have T2 := mz_eq_tr t1 t2
  have G2 := bd_eq H' T2 hdd
  have H3 := bd_sES H2 hi (e := B j) ok.2.2.1
  obtain ⟨H3, t3⟩ := H3
  have x3 : ∀ F, jx_cp h2 (bd_f b j + 1) (bd_f a i + 1) 100 0 0 4 F = F (jx_set h2 (bd_f a i + 1) (fg_E (B j))) := fun F => by
    refine (mz_cp (i := 0) (j := 0) (n := 4) (G2.2.2.2.1 j hj).2.1 (H2.2.2.2.1 i hi).2.1 (by have := bd_nc H; unfold bd_f; omega) (by decide) (by decide) (by decide) (by decide) F).trans ?_
    congr 3
  have T3 := mz_eq_tr T2 t3
  have G3 := bd_eq H' T3 hdd
  obtain ⟨h4, x4, H4, t4⟩ := bd_ptn H3 hi (v := fg_tn (B j)) ok.2.2.2.1
  have T4 := mz_eq_tr T3 t4
  have G4 := bd_eq H' T4 hdd
  obtain ⟨h5, x5, H5, t5⟩ := bd_pce H4 hi (v := fg_ce (B j)) ok.2.2.2.2 (w := nI (fg_ce (B j)) - 1) rfl
  have T5 := mz_eq_tr T4 t5
  refine ⟨h5, ?_, ?_, T5⟩
  · have h16 : 0 ≤ nI (fg_co (B j)) ∧ nI (fg_co (B j)) < 65536 := ⟨nI_pos' (by have := ok.2.1; omega), nI_lt (b := 65536) ok.2.1 (by decide)⟩
    rw [a_23, bd_fid H' hj, x1, bd_fco G1 hj, if_pos h16, x2, bd_fed G2 hj, bd_fed H2 hi, x3, bd_ftn G3 hj, x4, bd_fce G4 hj, x5]
  · simp only [mz_up_s, mz_up_up] at H5
    exact H5
theorem m_1 {b : Nat} (R : bd_R h b M) (V : ∃ n nx p A g, bd_I h a n nx p A g ∧ ∀ j k, j < 20 → k < 20 → p j = p k → j = k) (hd : a + 43 ≤ b ∨ b + 43 ≤ a) : ∃ h', jx_A 1 [.ref a, .ref b] h = some (.inl none, h') ∧ bd_R h' a M ∧ mz_eq a (a + 43) h h' := by
  obtain ⟨n, nx, p, A, g, H, inj⟩ := V
  obtain ⟨p', B, g', H', W', hF, ho⟩ := R
  have hdd : b + 43 ≤ a ∨ a + 43 ≤ b := hd.symm
  have hn := bd_n20 H'
  obtain ⟨h1, x1, H1, t1⟩ := bd_pn H (v := M.1) hn
  have G1 := bd_eq H' t1 hdd
  obtain ⟨h2, x2, H2, t2⟩ := bd_pnx H1 (v := M.2.1) H'.2.2.2.2.2.1
  have T2 := mz_eq_tr t1 t2
  -- the grid is cleared
  have key1 : ∀ (v3 : Value) (R : jx_R → Prop), (∀ u g0, bd_I u a M.1 M.2.1 p A g0 → (∀ c, c < 64 → g0 c = none) → mz_eq a (a + 43) h u → R (jx_E 1 39 [.ref a, .ref b, .int 0, v3] [] u)) → R (jx_E 1 18 [.ref a, .ref b, .int 0, v3] [] h2) := by
    intro v3 R hR
    refine mz_inv (γ := jx_H) (fun i u => jx_E 1 18 [.ref a, .ref b, .int (nI i), v3] [] u) (fun i u => ∃ g0, bd_I u a M.1 M.2.1 p A g0 ∧ (∀ c, c < i → g0 c = none) ∧ mz_eq a (a + 43) h u) 64 R ?_ ?_ 0 h2 (by decide) ⟨g, H2, fun c hc => by omega, T2⟩
    · rintro u ⟨g0, Hu, hg, tu⟩
      show R (jx_E 1 18 _ _ _)
      rw [b_1_18, if_pos (by decide)]
      exact hR u g0 Hu hg tu
    · rintro i u hi ⟨g0, Hu, hg, tu⟩
      obtain ⟨u2, w2, H2', s2⟩ := bd_pg Hu (c := i) (o := none) hi (fun j e => by cases e)
      refine Or.inr ⟨u2, ⟨_, H2', fun c hc => ?_, mz_eq_tr tu s2⟩, ?_⟩
      · by_cases q : c = i
        · subst q; rw [mz_up_s]
        · rw [mz_up_n q]; exact hg c (by omega)
      · show jx_E 1 18 _ _ _ = jx_E 1 18 _ _ _
        rw [b_1_18, if_neg (show ¬ (64 : Int32) ≤ nI i from nI_ge hi (by decide)), bd_gr Hu, show (jx_st u (a + 2) 111 (nI i) Value.null) = (jx_st u (a + 2) 111 (nI i) (bd_v a none)) from rfl, w2, nI_1]
  rw [a_1, bd_n H', x1, bd_nx G1, x2]
  refine key1 jx_j (fun X => ∃ h', X = some (.inl none, h') ∧ bd_R h' a M ∧ mz_eq a (a + 43) h h') (fun u g0 Hu hg0 tu => ?_)
  -- the fragments are copied
  refine mz_inv (γ := jx_H × Value) (fun i q => jx_E 1 39 [.ref a, .ref b, .int (nI i), q.2] [] q.1)
    (fun i q => ∃ A1 g1, bd_I q.1 a M.1 M.2.1 p A1 g1 ∧ (∀ k, k < i → A1 (p k) = M.2.2.1 k) ∧ (∀ c z, c < 64 → g1 c = some z → ∃ k, k < i ∧ p k = z ∧ fg_ce (M.2.2.1 k) = c + 1) ∧ (∀ k c, k < i → fg_ce (M.2.2.1 k) = c + 1 → g1 c = some (p k)) ∧ mz_eq a (a + 43) h q.1) M.1 (fun X => ∃ h', X = some (.inl none, h') ∧ bd_R h' a M ∧ mz_eq a (a + 43) h h') ?_ ?_ 0 (u, jx_j) (Nat.zero_le _) ⟨A, g0, Hu, fun k hk => by omega, fun c z hc e => (by rw [hg0 c hc] at e; cases e), fun k c hk => by omega, tu⟩
  · rintro ⟨q, v⟩ ⟨A1, g1, Hq, c1, c2, c3, tq⟩
    refine ⟨q, ?_, ⟨p, A1, g1, Hq, ⟨inj, fun c i hc e => ?_, fun k c hk e => ?_⟩, c1, fun c hc => ?_⟩, tq⟩
    · show jx_E 1 39 _ _ _ = _
      rw [b_1_39, bd_n Hq, if_pos (nI_le (Nat.le_refl _) (by omega))]
    · obtain ⟨k, hk, rfl, e3⟩ := c2 c i hc e
      exact ⟨by rw [c1 k hk]; exact e3, k, hk, rfl⟩
    · rw [c1 k hk] at e; exact c3 k c hk e
    · unfold bd_o
      cases e : g1 c with
      | some z =>
        obtain ⟨k, hk, rfl, e3⟩ := c2 c z hc e
        have e4 := W'.2.2 k c hk (by rw [hF k hk]; exact e3)
        rw [← ho c hc]
        unfold bd_o
        rw [e4]
        show some _ = some _
        rw [c1 k hk, hF k hk]
      | none =>
        rw [← ho c hc]
        unfold bd_o
        cases e4 : g' c with
        | none => rfl
        | some z =>
          obtain ⟨e5, k, hk, rfl⟩ := W'.2.1 c z hc e4
          rw [hF k hk] at e5
          rw [c3 k c hk e5] at e
          cases e
  · rintro i ⟨q, v⟩ hi ⟨A1, g1, Hq, c1, c2, c3, tq⟩
    have hp := bd_p Hq hi
    have hp' := bd_p H' hi
    have Gq := bd_eq H' tq hdd
    obtain ⟨u1, w1, U1, s1⟩ := m_23 Hq Gq hd hp hp'
    rw [hF i hi] at U1
    have e9 : ∀ k, k < i + 1 → mz_up A1 (p i) (M.2.2.1 i) (p k) = M.2.2.1 k := fun k hk => by
      by_cases z : k = i
      · subst z; rw [mz_up_s]
      · rw [mz_up_n (fun y => z (inj k i (by omega) (by omega) y))]; exact c1 k (by omega)
    have E0 : jx_E 1 39 [.ref a, .ref b, .int (nI i), v] [] q = if bI (fg_on (M.2.2.1 i)) = 0 then jx_E 1 39 [.ref a, .ref b, .int (nI (i + 1)), .ref (bd_f a (p i))] [] u1 else jx_st u1 (a + 2) 111 (nI (fg_ce (M.2.2.1 i)) - 1) (.ref (bd_f a (p i))) (fun h13 => jx_E 1 39 [.ref a, .ref b, .int (nI (i + 1)), .ref (bd_f a (p i))] [] h13) := by
      rw [b_1_39, bd_n Hq, if_neg (nI_ge hi (by omega)), bd_fr Hq, bd_at Hq (by omega), bd_fr Gq, bd_at Gq (by omega), bd_fis Hq hp, jx_cV_e w1, bd_fis U1 hp, jx_cI_e (m_21 U1 hp), bd_gr U1, bd_fce U1 hp, bd_fis U1 hp, mz_up_s, nI_1]
    cases ec : fg_ce (M.2.2.1 i) with
    | zero =>
      refine Or.inr ⟨(u1, .ref (bd_f a (p i))), ⟨_, g1, U1, e9, fun c z hc e => ?_, fun k c hk e => ?_, mz_eq_tr tq s1⟩, ?_⟩
      · obtain ⟨k, hk, e3, e4⟩ := c2 c z hc e
        exact ⟨k, by omega, e3, e4⟩
      · by_cases z : k = i
        · subst z; rw [ec] at e; cases e
        · exact c3 k c (by omega) e
      · show jx_E 1 39 _ _ _ = jx_E 1 39 _ _ _
        rw [E0, fg_on_0.mpr ec, if_pos (by decide)]
    | succ d =>
      have hd64 : d < 64 := by
        have := (bd_ok H' hp').2.2.2.2
        rw [hF i hi] at this; omega
      obtain ⟨u2, w2, U2, s2⟩ := bd_pg U1 (c := d) (o := some (p i)) hd64 (fun j e => by cases e; exact hp)
      have gd := W'.2.2 i d hi (by rw [hF i hi]; exact ec)
      refine Or.inr ⟨(u2, .ref (bd_f a (p i))), ⟨_, _, U2, e9, fun c z hc e => ?_, fun k c hk e => ?_, mz_eq_tr (mz_eq_tr tq s1) s2⟩, ?_⟩
      · by_cases y : c = d
        · subst y; rw [mz_up_s] at e; cases e
          exact ⟨i, by omega, rfl, ec⟩
        · rw [mz_up_n y] at e
          obtain ⟨k, hk, e3, e4⟩ := c2 c z hc e
          exact ⟨k, by omega, e3, e4⟩
      · by_cases z : k = i
        · subst z; rw [ec] at e
          have : d = c := Nat.succ.inj e
          subst this
          rw [mz_up_s]
        · have y : c ≠ d := fun y => by
            subst y
            have g2 := W'.2.2 k c (by omega) (by rw [hF k (by omega)]; exact e)
            rw [gd] at g2
            exact z (W'.1 k i (by omega) (by omega) (Option.some.inj g2).symm)
          rw [mz_up_n y]
          exact c3 k c (by omega) e
      · show jx_E 1 39 _ _ _ = jx_E 1 39 _ _ _
        rw [E0, fg_on_1.mpr (by rw [ec]; exact Nat.succ_ne_zero d), if_neg (by decide), ec, mz_pred]
        exact w2 _
end BD
end JX
