/-! The other object takes back, and lays its best guess. -/
section JX
section RD
variable {h : jx_H} {y : Nat} {S : Nat → Nat} {R : ro_R} {M : mm_T}
theorem m_177 (I : ro_I h y S 0 R) (Q : ro_S S M) (O : mm_ok M) (v : Int32) : rd_C h y S R (jx_A 177 [.ref y, .int v] h) (ok_take M v) (no_take M v) cd_take := by
  obtain ⟨p, A, g, B, hF, ho⟩ := Q
  have J : rq_J h y (ro_fs y 0 R) S M.1 M.2.1 p A g := ⟨I.1, B⟩
  have hn := rq_n J
  obtain ⟨o, hf, e⟩ := m_144 J (rq_AU (mm_okA O hF)) v
  have hf' : mm_fd M v o := bd_fd_cong hF hf
  cases o with
  | none => exact rd_no I (k := 1) (e := -1) (Or.inl ⟨hf', rfl⟩) rfl (by rw [a_177, rq_is J, jx_cI_e e, if_neg (show ¬ (0 : Int32) ≤ -1 by decide), rq_is J])
  | some k =>
    have hk : k < M.1 := hf.1
    have pk := rq_p J (show k < 20 by omega)
    have E : jx_A 177 [.ref y, .int v] h = if bI (fg_on (A (p k))) = 0 then (jx_cI jx_A 138 [.ref y, .int 2] h (fun y13 h12 => some (.inl (some (.int y13)), h12))) else (jx_cI jx_A 156 [.ref y, .int (nI (fg_ce (A (p k))) - 1), .int 1] h (fun y8 h7 => jx_gA h7 y 8 0 (fun a9 => jx_st h7 a9 100 (161 + (nI (fg_ce (A (p k))) - 1)) (.int 0) (fun h10 => jx_is h10 y 8 (jx_cV jx_A 141 [.ref y, .int (nI (p k)), .int 7, .int 0] h10 (fun h11 => some (.inl (some (.int y8)), h11))))))) := by
      rw [a_177, rq_is J, jx_cI_e e, if_pos (show (0 : Int32) ≤ nI (p k) from nI_pos' (by omega)), rq_is J, jx_cI_e (m_145 J hk), rq_is J, rq_is J, jx_cI_e (m_140c J hk), rq_is J]
    cases eo : fg_on (A (p k)) with
    | false =>
      refine rd_no I (k := 2) (e := -4) (Or.inr ⟨k, hf', by rw [← hF k hk]; exact eo, rfl⟩) rfl ?_
      rw [E, eo, if_pos (show bI false = 0 from rfl)]
    | true =>
      have c1 := fg_on_1.mp eo
      obtain ⟨c, hce⟩ : ∃ c, fg_ce (A (p k)) = c + 1 := ⟨fg_ce (A (p k)) - 1, by omega⟩
      have hc : c < 64 := by have := (rq_ok J hk).2.2.2.2; omega
      rw [eo, if_neg (by decide), hce, nI_pred, jx_cI_e (show jx_A 156 [.ref y, .int (nI c), .int 1] h = _ from m_156 J hc true), rq_0 J, show (161 : Int32) + nI c = nI (161 + c) from nI_add 161 c] at E
      obtain ⟨h1, x1, I1, t1⟩ := ro_ps I (k := 161 + c) (by omega) 0
      obtain ⟨h2, x2, I2, t2⟩ := m_141 I1 pk (w := 7) (by decide) 0
      have B1 := rf_fld (rf_gr (rq_BF B) hc none) (rq_W J).1 hk (w0 := 7) (v := 0) (by decide) (fg_ok_sce (rq_ok J hk) (v := 0) (by decide)) (fg_w_sce _ 0)
      have W1 := bd_W_tk (rq_W J) hk hn hce hc
      refine Or.inl ⟨_, mm_tk M k c, h2, _, ⟨k, c, hf', hc, by rw [← hF k hk]; exact hce, rfl, rfl⟩, ?_, I2, ⟨p, _, _, rq_FB B1 W1, ?_, fun d hd => ?_⟩, mz_eq_tr t1 t2⟩
      · have me : mm_ms (bd_o A g) (bd_kd true) c = mm_ms M.2.2.2 1 c := mm_ms_cong ho hc
        rw [E]
        refine (x1 _).trans ?_
        rw [ro_is I1]
        have x2' : jx_A 141 [.ref y, .int (nI (p k)), .int 7, .int 0] h1 = some (.inl none, h2) := x2
        rw [jx_cV_e x2', me]
      · rw [hF k hk]
        exact bd_F_up (rq_W J) hn hF hk
      · rw [bd_o_tk (rq_W J) hce hd]
        show _ = mz_up M.2.2.2 c none d
        unfold mz_up
        rw [ho d hd]
/-- the best guess is laid -/
theorem m_188 {th : Int32} (I : ro_I h y S th R) (Q : ro_S S M) {p : Nat → Nat} {A : Nat → fg_T} {g : Nat → Option Nat} (B : rq_B S M.1 M.2.1 p A g) (hF : ∀ k, k < M.1 → A (p k) = M.2.2.1 k) (ho : ∀ c, c < 64 → bd_o A g c = M.2.2.2 c) {k c : Nat} (hk : k < M.1) (hc : c < 64) (hl : fg_on (A (p k)) = false) (hg : g c = none) :
    ∃ h' S', jx_A 188 [.ref y, .int (nI (p k)), .int (nI c)] h = some (.inl none, h') ∧ ro_I h' y S' th R ∧ (∃ A' g', rq_B S' M.1 M.2.1 p A' g' ∧ (∀ k', k' < M.1 → A' (p k') = (mm_pg M k c).2.2.1 k') ∧ (∀ d, d < 64 → bd_o A' g' d = (mm_pg M k c).2.2.2 d)) ∧ mz_eq y (y + 8) h h' := by
  have J : rq_J h y (ro_fs y th R) S M.1 M.2.1 p A g := ⟨I.1, B⟩
  have hn := rq_n J
  have pk := rq_p J (show k < 20 by omega)
  have hce := fg_on_0.mp hl
  have bl := mm_bt_le (mm_wt (bd_o A g) (A (p k)) c) 3
  have tn4 : mm_tn (bd_o A g) (A (p k)) c < 4 := show mm_tn (bd_o A g) (A (p k)) c < 4 from Nat.lt_succ_of_le bl
  have tne : mm_tn (bd_o A g) (A (p k)) c = mm_tn M.2.2.2 (M.2.2.1 k) c := by rw [hF k hk]; exact mm_tn_cong ho hc
  obtain ⟨h1, x1, I1, t1⟩ := m_141 I pk (w := 6) (by decide) (mm_tn (bd_o A g) (A (p k)) c)
  obtain ⟨h2, x2, I2, t2⟩ := m_174 I1 pk hc
  have gfe : fg_sce (fg_stn (A (p k)) (mm_tn (bd_o A g) (A (p k)) c)) (c + 1) = mm_gf M k c := by rw [tne, hF k hk]; rfl
  have B1 := rf_fld (rq_BF B) (rq_W J).1 hk (w0 := 6) (v := mm_tn (bd_o A g) (A (p k)) c) (by decide) (fg_ok_stn (rq_ok J hk) tn4) (fg_w_stn _ _)
  have B2 := rf_fld B1 (rq_W J).1 hk (w0 := 7) (v := c + 1) (f' := mm_gf M k c) (by decide) (by rw [← gfe]; exact fg_ok_sce (fg_ok_stn (rq_ok J hk) tn4) (by omega)) (by rw [mz_up_s, ← gfe]; exact fg_w_sce _ _)
  have B3 := rf_gr B2 hc (some (p k))
  rw [mz_up_up] at B3
  have W1 : bd_W M.1 p (mz_up A (p k) (mm_gf M k c)) (mz_up g c (some (p k))) := bd_W_put2 (rq_W J) hk hn hce hg rfl
  refine ⟨h2, _, ?_, I2, ⟨_, _, rq_FB B3 W1, bd_F_up (rq_W J) hn hF hk, fun d hd => ?_⟩, mz_eq_tr t1 t2⟩
  · rw [a_188, rq_is J, jx_cI_e (m_184 J hk hc), rq_is J, jx_cV_e (show jx_A 141 [.ref y, .int (nI (p k)), .int 6, .int (nI (mm_tn (bd_o A g) (A (p k)) c))] h = _ from x1), ro_is I1, jx_cV_e x2]
  · rw [bd_o_put (rq_W J) hce hd]
    show _ = mz_up M.2.2.2 c _ d
    unfold mz_up
    rw [ho d hd]
end RD
end JX
