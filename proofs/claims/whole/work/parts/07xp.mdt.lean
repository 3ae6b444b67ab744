/-! The other object's public changes: kept before, done, ended. -/
section JX
section RD
variable {h : jx_H} {y : Nat} {S : Nat → Nat} {R : ro_R} {M : mm_T} {th : Int32}
/-- a change is kept in the past, or refused and nothing has changed -/
def rd_T (h : jx_H) (y : Nat) (S : Nat → Nat) (R : ro_R) (X : jx_R) (ok : Int32 → mm_T → Prop) (no : Int32 → Prop) (cd : Int32 → Int32) : Prop :=
  (∃ r M' h' S', ok r M' ∧ X = some (.inl (some (.int r)), h') ∧ ro_I h' y S' 0 (ro_P (ro_B R S) (ro_ps8 (ro_B R S)).1 (ro_ps8 (ro_B R S)).2) ∧ ro_S S' M' ∧ mz_eq y (y + 8) h h') ∨
  (∃ e h', no e ∧ X = some (.inl (some (.int 0)), h') ∧ ro_I h' y S (cd e) (ro_B R S) ∧ mz_eq y (y + 8) h h')
theorem rd_chg {X : jx_R} {Y : jx_H → jx_R} {ok : Int32 → mm_T → Prop} {no : Int32 → Prop} {cd : Int32 → Int32} (I : ro_I h y S th R) (hp : ro_pm R ≤ 8)
    (hX : ∀ h1, jx_A 136 [.ref y] h = some (.inl none, h1) → ro_I h1 y S 0 (ro_B R S) → X = jx_cI (fun _ _ _ => Y h1) 0 [] h1 (fun y3 h2 => jx_is h2 y 8 (jx_cI jx_A 137 [.ref y, .int y3] h2 (fun y5 h4 => some (.inl (some (.int y5)), h4)))))
    (hY : ∀ h1, ro_I h1 y S 0 (ro_B R S) → rd_C h1 y S (ro_B R S) (Y h1) ok no cd) (hc : ∀ e, no e → ¬ cd e ≤ 0) : rd_T h y S R X ok no cd := by
  obtain ⟨h1, x1, I1, t1⟩ := m_136 I
  have E := hX h1 x1 I1
  rcases hY h1 I1 with ⟨r, M', h2, S2, a1, a2, a3, a4, a5⟩ | ⟨e, h2, a1, a2, a3, a4⟩
  · obtain ⟨h3, x3, I3, t3⟩ := m_137 a3 (show ro_pm (ro_B R S) ≤ 8 from hp) r
    refine Or.inl ⟨r, M', h3, S2, a1, ?_, I3, a4, mz_eq_tr t1 (mz_eq_tr a5 t3)⟩
    rw [E, jx_cI_e (C := fun _ _ _ => Y h1) a2, ro_is a3, jx_cI_e x3]
  · obtain ⟨h3, x3, I3, t3⟩ := m_137x a3 (hc e a1) 0
    refine Or.inr ⟨e, h3, a1, ?_, I3, mz_eq_tr t1 (mz_eq_tr a4 t3)⟩
    rw [E, jx_cI_e (C := fun _ _ _ => Y h1) a2, ro_is a3, jx_cI_e x3]
theorem cd_pos2 (e : Int32) (a : Int32) : ¬ (if e = a then (1 : Int32) else 2) ≤ 0 := by split <;> decide
theorem cd_pos3 (e a b : Int32) : ¬ (if e = a then (1 : Int32) else (if e = b then 2 else 3)) ≤ 0 := by
  split
  · decide
  · split <;> decide
theorem m_161 (I : ro_I h y S th R) (hp : ro_pm R ≤ 8) (Q : ro_S S M) (hx : M.2.1 + 1 < 2 ^ 30) (c n e s w : Int32) : rd_T h y S R (jx_A 161 [.ref y, .int c, .int n, .int e, .int s, .int w] h) (ok_add M c n e s w) (no_add M c n e s w) cd_add :=
  rd_chg (Y := fun h1 => jx_A 160 [.ref y, .int c, .int n, .int e, .int s, .int w] h1) I hp (fun h1 x1 I1 => by rw [a_161, ro_is I, jx_cV_e x1, ro_is I1]; rfl) (fun h1 I1 => m_160 I1 Q hx c n e s w) (fun e _ => cd_pos2 e (-3))
theorem m_163 (I : ro_I h y S th R) (hp : ro_pm R ≤ 8) (Q : ro_S S M) (O : mm_ok M) (v : Int32) : rd_T h y S R (jx_A 163 [.ref y, .int v] h) (ok_drop M v) (no_drop M v) cd_take :=
  rd_chg (Y := fun h1 => jx_A 162 [.ref y, .int v] h1) I hp (fun h1 x1 I1 => by rw [a_163, ro_is I, jx_cV_e x1, ro_is I1]; rfl) (fun h1 I1 => m_162 I1 Q O v) (fun e _ => cd_pos2 e (-1))
theorem m_176 (I : ro_I h y S th R) (hp : ro_pm R ≤ 8) (Q : ro_S S M) (O : mm_ok M) (v a b : Int32) : rd_T h y S R (jx_A 176 [.ref y, .int v, .int a, .int b] h) (ok_put M v a b) (no_put M v a b) cd_put :=
  rd_chg (Y := fun h1 => jx_A 175 [.ref y, .int v, .int a, .int b] h1) I hp (fun h1 x1 I1 => by rw [a_176, ro_is I, jx_cV_e x1, ro_is I1]; rfl) (fun h1 I1 => m_175 I1 Q O v a b) (fun e _ => cd_pos3 e (-1) (-2))
theorem m_178 (I : ro_I h y S th R) (hp : ro_pm R ≤ 8) (Q : ro_S S M) (O : mm_ok M) (v : Int32) : rd_T h y S R (jx_A 178 [.ref y, .int v] h) (ok_take M v) (no_take M v) cd_take :=
  rd_chg (Y := fun h1 => jx_A 177 [.ref y, .int v] h1) I hp (fun h1 x1 I1 => by rw [a_178, ro_is I, jx_cV_e x1, ro_is I1]; rfl) (fun h1 I1 => m_177 I1 Q O v) (fun e _ => cd_pos2 e (-1))
theorem m_180 (I : ro_I h y S th R) (hp : ro_pm R ≤ 8) (Q : ro_S S M) (O : mm_ok M) (v t : Int32) : rd_T h y S R (jx_A 180 [.ref y, .int v, .int t] h) (ok_turn M v t) (no_turn M v t) cd_turn :=
  rd_chg (Y := fun h1 => jx_A 179 [.ref y, .int v, .int t] h1) I hp (fun h1 x1 I1 => by rw [a_180, ro_is I, jx_cV_e x1, ro_is I1]; rfl) (fun h1 I1 => m_179 I1 Q O v t) (fun e _ => cd_pos2 e (-1))
theorem m_182 (I : ro_I h y S th R) (hp : ro_pm R ≤ 8) (Q : ro_S S M) (O : mm_ok M) (v w : Int32) : rd_T h y S R (jx_A 182 [.ref y, .int v, .int w] h) (ok_swap M v w) (no_swap M v w) cd_swap :=
  rd_chg (Y := fun h1 => jx_A 181 [.ref y, .int v, .int w] h1) I hp (fun h1 x1 I1 => by rw [a_182, ro_is I, jx_cV_e x1, ro_is I1]; rfl) (fun h1 I1 => m_181 I1 Q O v w) (fun e _ => cd_pos3 e (-1) (-3))
theorem m_191 (I : ro_I h y S th R) (hp : ro_pm R ≤ 8) (Q : ro_S S M) (O : mm_ok M) (a b : Int32) : rd_T h y S R (jx_A 191 [.ref y, .int a, .int b] h) (ok_pg M a b) (no_pgc M a b) id :=
  rd_chg (Y := fun h1 => jx_A 190 [.ref y, .int a, .int b] h1) I hp (fun h1 x1 I1 => by rw [a_191, ro_is I, jx_cV_e x1, ro_is I1]; rfl) (fun h1 I1 => m_190 I1 Q O a b) (fun e q => by
    rcases q with ⟨rfl, -⟩ | ⟨rfl, -⟩ | ⟨rfl, -⟩ <;> decide)
theorem m_194 (I : ro_I h y S th R) (hp : ro_pm R ≤ 8) (Q : ro_S S M) (O : mm_ok M) : rd_T h y S R (jx_A 194 [.ref y] h) (fun r M' => ∃ n : Nat, r = nI n ∧ mm_fl 20 M n M') (fun _ => False) id :=
  rd_chg (Y := fun h1 => jx_A 192 [.ref y] h1) I hp (fun h1 x1 I1 => by rw [a_194, ro_is I, jx_cV_e x1, ro_is I1]; rfl) (fun h1 I1 => by
    obtain ⟨r, M', h2, S2, f1, f2, f3, f4, f5⟩ := m_192 I1 Q O
    exact Or.inl ⟨nI r, M', h2, S2, ⟨r, rfl, f1⟩, f2, f3, f4, f5⟩) (fun e q => q.elim)
end RD
end JX
