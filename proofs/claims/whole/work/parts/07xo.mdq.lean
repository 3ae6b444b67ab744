/-! The other object's questions: what it answers, and the number it keeps. -/
section JX
/-- a question of the other object: the answer, or a number for the exception -/
def rd_Q (h : jx_H) (y : Nat) (S : Nat → Nat) (R : ro_R) (X : jx_R) (sp : q_O → Prop) (ce : String → Int32) (dv : Value) : Prop :=
  ∃ o h', sp o ∧ mz_eq y (y + 8) h h' ∧ match o with
    | .inl v => X = some (.inl (some v), h') ∧ ro_I h' y S 0 R
    | .inr s => X = some (.inl (some dv), h') ∧ ro_I h' y S (ce s) R
def ce_1 (_ : String) : Int32 := 1
section RD
variable {h : jx_H} {y : Nat} {S : Nat → Nat} {R : ro_R} {M : mm_T} {th : Int32}
theorem m_164 (I : ro_I h y S th R) (Q : ro_S S M) : ∃ h', jx_A 164 [.ref y] h = some (.inl (some (.int (nI M.1))), h') ∧ ro_I h' y S 0 R ∧ mz_eq y (y + 8) h h' := by
  obtain ⟨p, A, g, B, hF, ho⟩ := Q
  obtain ⟨h1, x1, I1, t1⟩ := ro_pth I 0
  have J1 : rq_J h1 y (ro_fs y 0 R) S M.1 M.2.1 p A g := ⟨I1.1, B⟩
  have m148 := m_148 J1 false
  rw [show mz_su (fun k => (bif false then !fg_on (A (p k)) else true).toNat) M.1 = M.1 from mz_su_one M.1] at m148
  exact ⟨h1, by rw [a_164, x1, ro_is I1, jx_cI_e (show jx_A 148 [.ref y, .int 0] h1 = _ from m148)], I1, t1⟩
theorem m_165 (I : ro_I h y S th R) (Q : ro_S S M) : ∃ h', jx_A 165 [.ref y] h = some (.inl (some (.int (nI (mm_lo M)))), h') ∧ ro_I h' y S 0 R ∧ mz_eq y (y + 8) h h' := by
  obtain ⟨p, A, g, B, hF, ho⟩ := Q
  obtain ⟨h1, x1, I1, t1⟩ := ro_pth I 0
  have J1 : rq_J h1 y (ro_fs y 0 R) S M.1 M.2.1 p A g := ⟨I1.1, B⟩
  have m148 := m_148 J1 true
  rw [show mz_su (fun k => (bif true then !fg_on (A (p k)) else true).toNat) M.1 = mm_lo M from mz_su_cong (fun k hk => by show (!fg_on (A (p k))).toNat = (!fg_on (M.2.2.1 k)).toNat; rw [hF k hk])] at m148
  exact ⟨h1, by rw [a_165, x1, ro_is I1, jx_cI_e (show jx_A 148 [.ref y, .int 1] h1 = _ from m148)], I1, t1⟩
theorem m_167 (I : ro_I h y S th R) (Q : ro_S S M) (O : mm_ok M) (v : Int32) : rd_Q h y S R (jx_A 167 [.ref y, .int v] h) (sp_ex M v) ce_1 (.int 0) := by
  obtain ⟨p, A, g, B, hF, ho⟩ := Q
  obtain ⟨h1, x1, I1, t1⟩ := ro_pth I 0
  have J1 : rq_J h1 y (ro_fs y 0 R) S M.1 M.2.1 p A g := ⟨I1.1, B⟩
  have hn := rq_n J1
  obtain ⟨o, hf, e⟩ := m_144 J1 (rq_AU (mm_okA O hF)) v
  have hf' : mm_fd M v o := bd_fd_cong hF hf
  refine ⟨.inl (.int (bI o.isSome)), h1, ⟨o, hf', rfl⟩, t1, ?_, I1⟩
  rw [a_167, x1, ro_is I1, jx_cI_e e]
  cases o with
  | none => rw [if_pos (show (-1 : Int32) < 0 by decide)]; rfl
  | some k =>
    have hk : k < M.1 := hf.1
    rw [if_neg (show ¬ nI (p k) < 0 from nI_pos (by have := rq_p J1 (show k < 20 by omega); omega))]; rfl
/-- a question about a fragment -/
theorem m_fd {X : jx_R} {w : Nat → Value} {dv : Value} {Z : Int32 → jx_H → jx_R} (I : ro_I h y S th R) (Q : ro_S S M) (O : mm_ok M) (v : Int32)
    (hX : ∀ y2, jx_A 144 [.ref y, .int v] h = some (.inl (some (.int y2)), h) → X = if y2 < 0 then (jx_is h y 8 (jx_cI jx_A 139 [.ref y, .int 0] h (fun y4 h3 => if y4 = 0 then (some (.inl (some dv), h3)) else Z y2 h3))) else (jx_is h y 8 (jx_cI jx_A 139 [.ref y, .int 1] h (fun y8 h7 => if y8 = 0 then (some (.inl (some dv), h7)) else Z y2 h7))))
    (hY : ∀ h1 p A g k, rq_J h1 y (ro_fs y 0 R) S M.1 M.2.1 p A g → (∀ k, k < M.1 → A (p k) = M.2.2.1 k) → k < M.1 → Z (nI (p k)) h1 = some (.inl (some (w k)), h1)) :
    rd_Q h y S R X (sp_fd M v w) ce_1 dv := by
  obtain ⟨p, A, g, B, hF, ho⟩ := Q
  have J : rq_J h y (ro_fs y th R) S M.1 M.2.1 p A g := ⟨I.1, B⟩
  have hn := rq_n J
  obtain ⟨o, hf, e⟩ := m_144 J (rq_AU (mm_okA O hF)) v
  have hf' : mm_fd M v o := bd_fd_cong hF hf
  have E := hX _ e
  cases o with
  | none =>
    obtain ⟨h1, x1, I1, t1⟩ := m_139 I false
    refine ⟨.inr eNS, h1, ⟨none, hf', rfl⟩, t1, ?_, I1⟩
    rw [E, if_pos (show (-1 : Int32) < 0 by decide), rq_is J, jx_cI_e (show jx_A 139 [.ref y, .int 0] h = _ from x1), if_pos (show bI false = 0 from rfl)]
  | some k =>
    have hk : k < M.1 := hf.1
    have pk := rq_p J (show k < 20 by omega)
    obtain ⟨h1, x1, I1, t1⟩ := m_139 I true
    have J1 : rq_J h1 y (ro_fs y 0 R) S M.1 M.2.1 p A g := ⟨I1.1, B⟩
    refine ⟨.inl (w k), h1, ⟨some k, hf', rfl⟩, t1, ?_, I1⟩
    rw [E, if_neg (show ¬ nI (p k) < 0 from nI_pos (by omega)), rq_is J, jx_cI_e (show jx_A 139 [.ref y, .int 1] h = _ from x1), if_neg (by decide)]
    exact hY h1 p A g k J1 hF hk
theorem m_168 (I : ro_I h y S th R) (Q : ro_S S M) (O : mm_ok M) (v : Int32) : rd_Q h y S R (jx_A 168 [.ref y, .int v] h) (sp_fd M v (fun k => .int (nI (fg_co (M.2.2.1 k))))) ce_1 (.int 32) := by
  refine m_fd (Z := fun y2 h3 => jx_is h3 y 8 (jx_cI jx_A 140 [.ref y, .int y2, .int 1] h3 (fun y6 h5 => if 0 ≤ ((y6.toUInt32 % 65536).toInt32) ∧ ((y6.toUInt32 % 65536).toInt32) < 65536 then some (.inl (some (.int ((y6.toUInt32 % 65536).toInt32))), h5) else none))) I Q O v (fun y2 e => by rw [a_168, ro_is I, jx_cI_e e]) (fun h1 p A g k J hF hk => ?_)
  have ok := rq_ok J hk
  have h16 : 0 ≤ nI (fg_co (A (p k))) ∧ nI (fg_co (A (p k))) < 65536 := ⟨nI_pos' (by have := ok.2.1; omega), nI_lt (b := 65536) ok.2.1 (by decide)⟩
  rw [rq_is J, jx_cI_e (m_140f J hk), mz_c16 ok.2.1, if_pos h16, hF k hk]
theorem m_169 (I : ro_I h y S th R) (Q : ro_S S M) (O : mm_ok M) (v : Int32) : rd_Q h y S R (jx_A 169 [.ref y, .int v] h) (sp_fd M v (fun k => .int (nI (fg_tn (M.2.2.1 k))))) ce_1 (.int 0) := by
  refine m_fd (Z := fun y2 h3 => jx_is h3 y 8 (jx_cI jx_A 140 [.ref y, .int y2, .int 6] h3 (fun y6 h5 => some (.inl (some (.int y6)), h5)))) I Q O v (fun y2 e => by rw [a_169, ro_is I, jx_cI_e e]) (fun h1 p A g k J hF hk => ?_)
  rw [rq_is J, jx_cI_e (m_140t J hk), hF k hk]
theorem m_171 (I : ro_I h y S th R) (Q : ro_S S M) (O : mm_ok M) (v : Int32) : rd_Q h y S R (jx_A 171 [.ref y, .int v] h) (sp_fd M v (fun k => .int (bI (fg_on (M.2.2.1 k))))) ce_1 (.int 0) := by
  refine m_fd (Z := fun y2 h3 => jx_is h3 y 8 (jx_cI jx_A 145 [.ref y, .int y2] h3 (fun y6 h5 => if y6 = 0 then (some (.inl (some (.int 0)), h5)) else (some (.inl (some (.int 1)), h5))))) I Q O v (fun y2 e => by rw [a_171, ro_is I, jx_cI_e e]) (fun h1 p A g k J hF hk => ?_)
  rw [rq_is J, jx_cI_e (m_145 J hk), hF k hk]
  cases fg_on (M.2.2.1 k) with
  | false => rw [if_pos (show bI false = 0 from rfl)]; rfl
  | true => rw [if_neg (by decide)]; rfl
/-- a question about a fragment on the grid -/
theorem m_gd {X : jx_R} {w : Nat → Nat → Value} {dv : Value} {Z : Int32 → jx_H → jx_R} (I : ro_I h y S th R) (Q : ro_S S M) (O : mm_ok M) (v : Int32)
    (hX : ∀ y2, jx_A 146 [.ref y, .int v] h = some (.inl (some (.int y2)), h) → X = if y2 < 0 then (jx_is h y 8 (jx_cI jx_A 139 [.ref y, .int 0] h (fun y4 h3 => if y4 = 0 then (some (.inl (some dv), h3)) else Z y2 h3))) else (jx_is h y 8 (jx_cI jx_A 139 [.ref y, .int 1] h (fun y8 h7 => if y8 = 0 then (some (.inl (some dv), h7)) else Z y2 h7))))
    (hY : ∀ h1 p A g k c, ro_I h1 y S 0 R → rq_J h1 y (ro_fs y 0 R) S M.1 M.2.1 p A g → (∀ k, k < M.1 → A (p k) = M.2.2.1 k) → (∀ c, c < 64 → bd_o A g c = M.2.2.2 c) → k < M.1 → fg_ce (A (p k)) = c + 1 → c < 64 → Z (nI (p k)) h1 = some (.inl (some (w k c)), h1)) :
    rd_Q h y S R X (sp_gd M v w) ce_1 dv := by
  obtain ⟨p, A, g, B, hF, ho⟩ := Q
  have J : rq_J h y (ro_fs y th R) S M.1 M.2.1 p A g := ⟨I.1, B⟩
  have hn := rq_n J
  obtain ⟨o, hf, e⟩ := m_146 J (rq_AU (mm_okA O hF)) v
  have hf' : mm_fd M v o := bd_fd_cong hF hf
  have no : jx_A 146 [.ref y, .int v] h = some (.inl (some (.int (-1))), h) → (mm_fd M v none ∨ ∃ k, mm_fd M v (some k) ∧ fg_on (M.2.2.1 k) = false) → rd_Q h y S R X (sp_gd M v w) ce_1 dv := by
    intro e1 q
    have E := hX _ e1
    obtain ⟨h1, x1, I1, t1⟩ := m_139 I false
    refine ⟨.inr eNS, h1, ⟨none, q, rfl⟩, t1, ?_, I1⟩
    rw [E, if_pos (show (-1 : Int32) < 0 by decide), rq_is J, jx_cI_e (show jx_A 139 [.ref y, .int 0] h = _ from x1), if_pos (show bI false = 0 from rfl)]
  cases o with
  | none => exact no e (Or.inl hf')
  | some k =>
    have hk : k < M.1 := hf.1
    have pk := rq_p J (show k < 20 by omega)
    cases eo : fg_on (A (p k)) with
    | false => exact no (by rw [e]; dsimp only; rw [eo]; rfl) (Or.inr ⟨k, hf', by rw [← hF k hk]; exact eo⟩)
    | true =>
      dsimp only at e
      rw [eo] at e
      have E := hX (nI (p k)) e
      have c1 := fg_on_1.mp eo
      obtain ⟨c, hce⟩ : ∃ c, fg_ce (A (p k)) = c + 1 := ⟨fg_ce (A (p k)) - 1, by omega⟩
      have hc : c < 64 := by have := (rq_ok J hk).2.2.2.2; omega
      obtain ⟨h1, x1, I1, t1⟩ := m_139 I true
      have J1 : rq_J h1 y (ro_fs y 0 R) S M.1 M.2.1 p A g := ⟨I1.1, B⟩
      refine ⟨.inl (w k c), h1, ⟨some (k, c), ⟨hf', by rw [← hF k hk]; exact hce, hc⟩, rfl⟩, t1, ?_, I1⟩
      rw [E, if_neg (show ¬ nI (p k) < 0 from nI_pos (by omega)), rq_is J, jx_cI_e (show jx_A 139 [.ref y, .int 1] h = _ from x1), if_neg (by decide)]
      exact hY h1 p A g k c I1 J1 hF ho hk hce hc
theorem m_172 (I : ro_I h y S th R) (Q : ro_S S M) (O : mm_ok M) (v : Int32) : rd_Q h y S R (jx_A 172 [.ref y, .int v] h) (sp_gd M v (fun _ c => .int (nI c))) ce_1 (.int 0) := by
  refine m_gd (Z := fun y2 h3 => jx_is h3 y 8 (jx_cI jx_A 140 [.ref y, .int y2, .int 7] h3 (fun y6 h5 => some (.inl (some (.int (y6 - 1))), h5)))) I Q O v (fun y2 e => by rw [a_172, ro_is I, jx_cI_e e]) (fun h1 p A g k c I1 J hF ho hk hce hc => ?_)
  rw [rq_is J, jx_cI_e (m_140c J hk), hce, nI_pred]
theorem m_209 (I : ro_I h y S th R) (Q : ro_S S M) (O : mm_ok M) (v : Int32) : rd_Q h y S R (jx_A 209 [.ref y, .int v] h) (sp_gd M v (fun _ c => .int (nI (mm_ms M.2.2.2 2 c)))) ce_1 (.int 0) := by
  refine m_gd (Z := fun y2 h3 => jx_is h3 y 8 (jx_cI jx_A 140 [.ref y, .int y2, .int 7] h3 (fun y6 h5 => jx_is h5 y 8 (jx_cI jx_A 156 [.ref y, .int (y6 - 1), .int (-1)] h5 (fun y8 h7 => some (.inl (some (.int y8)), h7)))))) I Q O v (fun y2 e => by rw [a_209, ro_is I, jx_cI_e e]) (fun h1 p A g k c I1 J hF ho hk hce hc => ?_)
  rw [rq_is J, jx_cI_e (m_140c J hk), hce, nI_pred, rq_is J, jx_cI_e (show jx_A 156 [.ref y, .int (nI c), .int (-1)] h1 = _ from m_156 J hc false), show mm_ms (bd_o A g) (bd_kd false) c = mm_ms M.2.2.2 2 c from mm_ms_cong ho hc]
end RD
end JX
