/-! The other object swaps. -/
section JX
section RD
variable {h : jx_H} {y : Nat} {S : Nat → Nat} {R : ro_R} {M : mm_T}
theorem m_181 (I : ro_I h y S 0 R) (Q : ro_S S M) (O : mm_ok M) (v w : Int32) : rd_C h y S R (jx_A 181 [.ref y, .int v, .int w] h) (ok_swap M v w) (no_swap M v w) cd_swap := by
  obtain ⟨p, A, g, B, hF, ho⟩ := Q
  have J : rq_J h y (ro_fs y 0 R) S M.1 M.2.1 p A g := ⟨I.1, B⟩
  have hn := rq_n J
  have W := rq_W J
  have U := rq_AU (mm_okA O hF)
  obtain ⟨o, hf, e⟩ := m_144 J U v
  obtain ⟨o2, hf2, e2⟩ := m_144 J U w
  have hf' : mm_fd M v o := bd_fd_cong hF hf
  have hf2' : mm_fd M w o2 := bd_fd_cong hF hf2
  cases o with
  | none =>
    refine rd_no I (k := 1) (e := -1) (Or.inl ⟨Or.inl hf', rfl⟩) rfl ?_
    rw [a_181, rq_is J, jx_cI_e e, rq_is J, jx_cI_e e2, if_pos (show (-1 : Int32) < 0 by decide), rq_is J]
  | some k =>
    have hk : k < M.1 := hf.1
    have pk := rq_p J (show k < 20 by omega)
    cases o2 with
    | none =>
      refine rd_no I (k := 1) (e := -1) (Or.inl ⟨Or.inr hf2', rfl⟩) rfl ?_
      rw [a_181, rq_is J, jx_cI_e e, rq_is J, jx_cI_e e2, if_neg (show ¬ nI (p k) < 0 from nI_pos (by omega)), if_neg (show ¬ (0 : Int32) ≤ -1 by decide), rq_is J]
    | some l =>
      have hl : l < M.1 := hf2.1
      have pl := rq_p J (show l < 20 by omega)
      have E : jx_A 181 [.ref y, .int v, .int w] h = if v = w then (jx_cI jx_A 138 [.ref y, .int 2] h (fun y24 h23 => some (.inl (some (.int y24)), h23))) else (if bI (fg_on (A (p k))) = 0 then (jx_cI jx_A 138 [.ref y, .int 3] h (fun y10 h9 => some (.inl (some (.int y10)), h9))) else (if bI (fg_on (A (p l))) = 0 then (jx_cI jx_A 138 [.ref y, .int 3] h (fun y22 h21 => some (.inl (some (.int y22)), h21))) else (jx_cV jx_A 174 [.ref y, .int (nI (p k)), .int (nI (fg_ce (A (p l))) - 1)] h (fun h17 => jx_is h17 y 8 (jx_cV jx_A 174 [.ref y, .int (nI (p l)), .int (nI (fg_ce (A (p k))) - 1)] h17 (fun h18 => jx_is h18 y 8 (jx_cI jx_A 157 [.ref y, .int 1] h18 (fun y20 h19 => some (.inl (some (.int y20)), h19))))))))) := by
        rw [a_181, rq_is J, jx_cI_e e, rq_is J, jx_cI_e e2, if_neg (show ¬ nI (p k) < 0 from nI_pos (by omega)), if_pos (show (0 : Int32) ≤ nI (p l) from nI_pos' (by omega)), rq_is J, rq_is J, jx_cI_e (m_145 J hk), rq_is J, rq_is J, jx_cI_e (m_145 J hl), rq_is J, rq_is J, jx_cI_e (m_140c J hk), rq_is J, jx_cI_e (m_140c J hl), rq_is J]
      by_cases hvw : v = w
      · have kl : k = l := U k l hk hl (by
          have a : nI (fg_id (A (p k))) = nI (fg_id (A (p l))) := hf.2.1.trans (hvw.trans hf2.2.1.symm)
          exact (nI_eq (by have := (rq_ok J hk).1; omega) (by have := (rq_ok J hl).1; omega)).mp a)
        subst kl
        refine rd_no I (k := 2) (e := -3) (Or.inr (Or.inl ⟨k, hf', hf2', rfl⟩)) rfl ?_
        rw [E, if_pos hvw]
      · have hkl : k ≠ l := fun q => hvw (by subst q; exact hf.2.1.symm.trans hf2.2.1)
        rw [if_neg hvw] at E
        cases eo : fg_on (A (p k)) with
        | false =>
          refine rd_no I (k := 3) (e := -4) (Or.inr (Or.inr ⟨k, l, hf', hf2', hkl, Or.inl (by rw [← hF k hk]; exact eo), rfl⟩)) rfl ?_
          rw [E, eo, if_pos (show bI false = 0 from rfl)]
        | true =>
          rw [eo, if_neg (by decide)] at E
          cases eo2 : fg_on (A (p l)) with
          | false =>
            refine rd_no I (k := 3) (e := -4) (Or.inr (Or.inr ⟨k, l, hf', hf2', hkl, Or.inr (by rw [← hF l hl]; exact eo2), rfl⟩)) rfl ?_
            rw [E, eo2, if_pos (show bI false = 0 from rfl)]
          | true =>
            rw [eo2, if_neg (by decide)] at E
            have c1 := fg_on_1.mp eo
            have c2 := fg_on_1.mp eo2
            obtain ⟨c, ek⟩ : ∃ c, fg_ce (A (p k)) = c + 1 := ⟨fg_ce (A (p k)) - 1, by omega⟩
            obtain ⟨d, el⟩ : ∃ d, fg_ce (A (p l)) = d + 1 := ⟨fg_ce (A (p l)) - 1, by omega⟩
            have hc : c < 64 := by have := (rq_ok J hk).2.2.2.2; omega
            have hd : d < 64 := by have := (rq_ok J hl).2.2.2.2; omega
            rw [ek, el, nI_pred, nI_pred] at E
            obtain ⟨h1, x1, I1, t1⟩ := m_174 I pk hd
            obtain ⟨h2, x2, I2, t2⟩ := m_174 I1 pl hc
            obtain ⟨hcd, hpne, W2⟩ := bd_W_sw (f1 := fg_sce (A (p k)) (d + 1)) (f2 := fg_sce (A (p l)) (c + 1)) W hn hk hl hkl ek el rfl rfl
            have B1 := rf_gr (rf_fld (rq_BF B) W.1 hk (w0 := 7) (v := d + 1) (by decide) (fg_ok_sce (rq_ok J hk) (by omega)) (fg_w_sce _ (d + 1))) hd (some (p k))
            have B2 := rf_gr (rf_fld B1 W.1 hl (w0 := 7) (v := c + 1) (f' := fg_sce (A (p l)) (c + 1)) (by decide) (fg_ok_sce (rq_ok J hl) (by omega)) (by rw [mz_up_n (fun z => hpne z.symm)]; exact fg_w_sce _ (c + 1))) hc (some (p l))
            have J2 : rq_J h2 y (ro_fs y 0 R) _ M.1 M.2.1 p _ _ := ⟨I2.1, rq_FB B2 W2⟩
            have hoo : ∀ x, x < 64 → bd_o (mz_up (mz_up A (p k) (fg_sce (A (p k)) (d + 1))) (p l) (fg_sce (A (p l)) (c + 1))) (mz_up (mz_up g d (some (p k))) c (some (p l))) x = (mm_sw M k l c d).2.2.2 x := fun x hx => by
              show _ = mz_up (mz_up M.2.2.2 d _) c _ x
              by_cases q : x = c
              · subst q
                unfold bd_o
                rw [mz_up_s, mz_up_s, ← hF l hl]
                show some _ = _
                rw [mz_up_s]
              · rw [mz_up_n q]
                by_cases q2 : x = d
                · subst q2
                  unfold bd_o
                  rw [mz_up_n q, mz_up_s, mz_up_s, ← hF k hk]
                  show some _ = _
                  rw [mz_up_n hpne, mz_up_s]
                · rw [mz_up_n q2, ← ho x hx]
                  unfold bd_o
                  rw [mz_up_n q, mz_up_n q2]
                  cases eg : g x with
                  | none => rfl
                  | some i =>
                    have w := (W.2.1 x i hx eg).1
                    show some _ = some _
                    rw [mz_up_n (fun z => by subst z; omega), mz_up_n (fun z => by subst z; omega)]
            have hFF : ∀ j, j < M.1 → mz_up (mz_up A (p k) (fg_sce (A (p k)) (d + 1))) (p l) (fg_sce (A (p l)) (c + 1)) (p j) = (mm_sw M k l c d).2.2.1 j := fun j hj => by
              show _ = mz_up (mz_up M.2.2.1 k _) l _ j
              by_cases q : j = l
              · subst q; rw [mz_up_s, mz_up_s, hF j hj]
              · rw [mz_up_n q, mz_up_n (fun z => q (W.1 j l (by omega) (by omega) z))]
                by_cases q2 : j = k
                · subst q2; rw [mz_up_s, mz_up_s, hF j hj]
                · rw [mz_up_n q2, mz_up_n (fun z => q2 (W.1 j k (by omega) (by omega) z)), hF j hj]
            refine Or.inl ⟨_, mm_sw M k l c d, h2, _, ⟨k, l, c, d, hf', hf2', hkl, hc, hd, by rw [← hF k hk]; exact ek, by rw [← hF l hl]; exact el, rfl, rfl⟩, ?_, I2, ⟨p, _, _, rq_FB B2 W2, hFF, hoo⟩, mz_eq_tr t1 t2⟩
            have pr : mz_su (fun j => mm_es (bd_o (mz_up (mz_up A (p k) (fg_sce (A (p k)) (d + 1))) (p l) (fg_sce (A (p l)) (c + 1))) (mz_up (mz_up g d (some (p k))) c (some (p l)))) (bd_kd true) (mz_up (mz_up A (p k) (fg_sce (A (p k)) (d + 1))) (p l) (fg_sce (A (p l)) (c + 1)) (p j))) M.1 = mm_pr (mm_sw M k l c d) 1 := by
              refine mz_su_cong (fun j hj => ?_)
              have hce := (rq_ok J2 hj).2.2.2.2
              rw [mm_es_cong hoo hce, hFF j hj]
              rfl
            rw [E, jx_cV_e x1, ro_is I1, jx_cV_e x2, rq_is J2, jx_cI_e (show jx_A 157 [.ref y, .int 1] h2 = _ from m_157 J2 true), pr]
end RD
end JX
