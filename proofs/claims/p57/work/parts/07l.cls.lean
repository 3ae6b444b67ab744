/-! The class's object: what it is, and its changes. -/
section JX
def mz_ag (lo hi : Nat) (h h' : jx_H) : Prop := ∀ q, lo ≤ q → q < hi → h'.1 q = h.1 q
theorem mz_ag_eq {lo hi lo' hi' : Nat} {h h' : jx_H} (e : mz_eq lo' hi' h h') (k : hi ≤ lo' ∨ hi' ≤ lo) : mz_ag lo hi h h' := fun q a b => e.1 q (by omega)
theorem mz_ag_at {lo hi : Nat} {h h' : jx_H} (a : mz_ag lo hi h h') {q : Nat} {o : jx_Ob} (h1 : lo ≤ q) (h2 : q < hi) (e : h.1 q = some o) : h'.1 q = some o := (a q h1 h2).trans e
def bd_V (h : jx_H) (a : Nat) : Prop := ∃ n nx p A g, bd_I h a n nx p A g ∧ ∀ j k, j < 20 → k < 20 → p j = p k → j = k
theorem bd_I_ag {h h' : jx_H} {a n nx : Nat} {p : Nat → Nat} {A : Nat → fg_T} {g : Nat → Option Nat} (H : bd_I h a n nx p A g) (e : mz_ag a (a + 43) h h') : bd_I h' a n nx p A g := by
  obtain ⟨h1, h2, h3, h4, h5, h6, h7, h8, h9⟩ := H
  refine ⟨mz_ag_at e (by omega) (by omega) h1, mz_ag_at e (by omega) (by omega) h2, mz_ag_at e (by omega) (by omega) h3, fun j hj => ?_, h5, h6, h7, h8, h9⟩
  have e2 : bd_f a j = a + 3 + 2 * j := rfl
  exact ⟨mz_ag_at e (by omega) (by omega) (h4 j hj).1, mz_ag_at e (by omega) (by omega) (h4 j hj).2.1, (h4 j hj).2.2⟩
theorem bd_R_ag {h h' : jx_H} {a : Nat} {M : mm_T} (R : bd_R h a M) (e : mz_ag a (a + 43) h h') : bd_R h' a M := by
  obtain ⟨p, A, g, H, r⟩ := R
  exact ⟨p, A, g, bd_I_ag H e, r⟩
theorem bd_V_ag {h h' : jx_H} {a : Nat} (R : bd_V h a) (e : mz_ag a (a + 43) h h') : bd_V h' a := by
  obtain ⟨n, nx, p, A, g, H, r⟩ := R
  exact ⟨n, nx, p, A, g, bd_I_ag H e, r⟩
theorem bd_R_V {h : jx_H} {a : Nat} {M : mm_T} (R : bd_R h a M) : bd_V h a := by
  obtain ⟨p, A, g, H, W, r⟩ := R
  exact ⟨_, _, p, A, g, H, W.1⟩
theorem gs_V_ag {h h' : jx_H} {q : Nat} (G : gs_V h q) (e : mz_ag q (q + 4) h h') : gs_V h' q := by
  obtain ⟨wa, co, wt, gp, h1, h2, h3, h4, h5⟩ := G
  exact ⟨wa, co, wt, gp, mz_ag_at e (by omega) (by omega) h1, mz_ag_at e (by omega) (by omega) h2, mz_ag_at e (by omega) (by omega) h3, mz_ag_at e (by omega) (by omega) h4, h5⟩
-- groups
def gu_I (h : jx_H) (r : Nat) (qu : Nat → Value) (pa : Nat → Int32) : Prop := h.1 r = some (3, [.ref (r + 1), .ref (r + 2)]) ∧ h.1 (r + 1) = some (111, mz_ar 20 qu) ∧ h.1 (r + 2) = some (100, mz_ar 64 (fun c => .int (pa c))) ∧ jx_nc ≤ r
def gu_V (h : jx_H) (r : Nat) : Prop := ∃ qu pa, gu_I h r qu pa
theorem gu_V_ag {h h' : jx_H} {q : Nat} (G : gu_V h q) (e : mz_ag q (q + 3) h h') : gu_V h' q := by
  obtain ⟨qu, pa, h1, h2, h3, h4⟩ := G
  exact ⟨qu, pa, mz_ag_at e (by omega) (by omega) h1, mz_ag_at e (by omega) (by omega) h2, mz_ag_at e (by omega) (by omega) h3, h4⟩
-- the history
def hs_I (h : jx_H) (y nx ct : Nat) : Prop := h.1 y = some (5, [.ref (y + 1), .int (nI nx), .int (nI ct)]) ∧ h.1 (y + 1) = some (110, mz_ar 9 (fun k => .ref (y + 2 + 43 * k))) ∧ nx < 9 ∧ ct ≤ 8 ∧ jx_nc ≤ y
theorem hs_ag {h h' : jx_H} {y nx ct : Nat} (G : hs_I h y nx ct) (e : mz_ag y (y + 2) h h') : hs_I h' y nx ct := by
  obtain ⟨h1, h2, h3⟩ := G
  exact ⟨mz_ag_at e (by omega) (by omega) h1, mz_ag_at e (by omega) (by omega) h2, h3⟩
theorem hs_p {h : jx_H} {y nx ct : Nat} (G : hs_I h y nx ct) {v : Nat} (hv : v < 9) {w : Int32} (e : w = nI v) : ∃ h', (∀ F, jx_pt h y 5 1 (.int w) F = F h') ∧ hs_I h' y v ct ∧ mz_eq y (y + 1) h h' := by
  subst e
  obtain ⟨h1, h2, h3, h4, h5⟩ := G
  exact ⟨_, fun F => jx_pt_e h1 h5 (by show 1 < 3; decide) F, ⟨mz_set_e, by rw [mz_set_n (by omega)]; exact h2, hv, h4, h5⟩, mz_eq_st (by omega) (by omega)⟩
theorem hs_c {h : jx_H} {y nx ct : Nat} (G : hs_I h y nx ct) {v : Nat} (hv : v ≤ 8) {w : Int32} (e : w = nI v) : ∃ h', (∀ F, jx_pt h y 5 2 (.int w) F = F h') ∧ hs_I h' y nx v ∧ mz_eq y (y + 1) h h' := by
  subst e
  obtain ⟨h1, h2, h3, h4, h5⟩ := G
  exact ⟨_, fun F => jx_pt_e h1 h5 (by show 2 < 3; decide) F, ⟨mz_set_e, by rw [mz_set_n (by omega)]; exact h2, h3, hv, h5⟩, mz_eq_st (by omega) (by omega)⟩
theorem m_44 {h : jx_H} {y nx ct : Nat} (G : hs_I h y nx ct) : jx_A 44 [.ref y] h = some (.inl (some (.ref (y + 2 + 43 * nx))), h) := by
  rw [a_44, jx_gA_e G.1 rfl, jx_gI_e G.1 rfl, mz_lA G.2.1 G.2.2.1 (by decide) rfl]
theorem mz_m9 : ∀ k, k < 9 → (nI k + 1) - (nI k + 1) / 9 * 9 = nI ((k + 1) % 9) := by decide +kernel
theorem mz_m9' : ∀ k, k < 9 → ((nI k + 9) - 1) - ((nI k + 9) - 1) / 9 * 9 = nI ((k + 8) % 9) := by decide +kernel
theorem mz_p8 : ∀ k, k ≤ 8 → (if (8 : Int32) < nI k + 1 then (8 : Int32) else nI k + 1) = nI (min (k + 1) 8) := by decide +kernel
theorem m_45 {h : jx_H} {y nx ct : Nat} (G : hs_I h y nx ct) : ∃ h', jx_A 45 [.ref y] h = some (.inl none, h') ∧ hs_I h' y ((nx + 1) % 9) (min (ct + 1) 8) ∧ mz_eq y (y + 1) h h' := by
  obtain ⟨h1, x1, G1, t1⟩ := hs_p G (v := (nx + 1) % 9) (by omega) (mz_m9 nx G.2.2.1)
  obtain ⟨h2, x2, G2, t2⟩ := hs_c G1 (v := min (ct + 1) 8) (by omega) (mz_p8 ct G.2.2.2.1)
  refine ⟨h2, ?_, G2, mz_eq_tr t1 t2⟩
  rw [a_45, jx_gI_e G.1 rfl, x1, jx_gI_e G1.1 rfl]
  have e : jx_A 247 [.int (nI ct + 1), .int 8] h1 = some (.inl (some (.int (if (8 : Int32) < nI ct + 1 then (8 : Int32) else nI ct + 1))), h1) := by
    rw [a_247]
    split <;> rfl
  rw [jx_cI_e e, x2]
theorem m_46 {h : jx_H} {y nx ct : Nat} (G : hs_I h y nx (ct + 1)) : ∃ h', jx_A 46 [.ref y] h = some (.inl (some (.ref (y + 2 + 43 * ((nx + 8) % 9)))), h') ∧ hs_I h' y ((nx + 8) % 9) ct ∧ mz_eq y (y + 1) h h' := by
  obtain ⟨h1, x1, G1, t1⟩ := hs_p G (v := (nx + 8) % 9) (by omega) (mz_m9' nx G.2.2.1)
  obtain ⟨h2, x2, G2, t2⟩ := hs_c G1 (v := ct) (by have := G.2.2.2.1; omega) (w := nI (ct + 1) - 1) (nI_pred ct)
  refine ⟨h2, ?_, G2, mz_eq_tr t1 t2⟩
  rw [a_46, jx_gI_e G.1 rfl, x1, jx_gI_e G1.1 rfl, x2, jx_gA_e G2.1 rfl, jx_gI_e G2.1 rfl, mz_lA G2.2.1 G2.2.2.1 (by decide) rfl]
theorem m_47 {h : jx_H} {y nx ct : Nat} (G : hs_I h y nx ct) : ∃ h', jx_A 47 [.ref y] h = some (.inl none, h') ∧ hs_I h' y nx 0 ∧ mz_eq y (y + 1) h h' := by
  obtain ⟨h2, x2, G2, t2⟩ := hs_c G (v := 0) (by omega) (w := 0) rfl
  exact ⟨h2, by rw [a_47, x2], G2, t2⟩
-- the input: text, commands
def sc_I (h : jx_H) (s tl po cc : Nat) (tx : Nat → Nat) (kw : Nat → Nat) (va : Nat → Nat → Int32) : Prop :=
  h.1 s = some (6, [.ref (s + 1), .int (nI tl), .int (nI po), .ref (s + 2), .int (nI cc)]) ∧ h.1 (s + 1) = some (101, mz_ar 60 (fun i => .int (nI (tx i)))) ∧ h.1 (s + 2) = some (112, mz_ar 12 (fun i => .ref (s + 3 + 2 * i))) ∧
  (∀ i, i < 12 → h.1 (s + 3 + 2 * i) = some (1, [.ref (kw i), .ref (s + 4 + 2 * i)]) ∧ h.1 (s + 4 + 2 * i) = some (100, mz_ar 5 (fun j => .int (va i j))) ∧ 4 ≤ kw i ∧ kw i ≤ 10) ∧ (∀ i, tx i < 65536) ∧ tl ≤ 60 ∧ po ≤ 60 ∧ cc ≤ 12 ∧ jx_nc ≤ s
def sc_V (h : jx_H) (s tl : Nat) (tx : Nat → Nat) : Prop := ∃ po cc ty kw va, sc_I h s tl po cc ty kw va ∧ ∀ i, i < tl → ty i = tx i
theorem sc_ag {h h' : jx_H} {s tl po cc : Nat} {tx : Nat → Nat} {kw : Nat → Nat} {va : Nat → Nat → Int32} (G : sc_I h s tl po cc tx kw va) (e : mz_ag s (s + 27) h h') : sc_I h' s tl po cc tx kw va := by
  obtain ⟨h1, h2, h3, h4, h5⟩ := G
  refine ⟨mz_ag_at e (by omega) (by omega) h1, mz_ag_at e (by omega) (by omega) h2, mz_ag_at e (by omega) (by omega) h3, fun i hi => ?_, h5⟩
  exact ⟨mz_ag_at e (by omega) (by omega) (h4 i hi).1, mz_ag_at e (by omega) (by omega) (h4 i hi).2.1, (h4 i hi).2.2⟩
theorem sc_V_ag {h h' : jx_H} {s tl : Nat} {tx : Nat → Nat} (G : sc_V h s tl tx) (e : mz_ag s (s + 27) h h') : sc_V h' s tl tx := by
  obtain ⟨po, cc, ty, kw, va, G, q⟩ := G
  exact ⟨po, cc, ty, kw, va, sc_ag G e, q⟩
-- the output
def ou_V (h : jx_H) (u ol : Nat) (ot : Nat → Nat) : Prop := ∃ oa : Nat → Nat, h.1 u = some (101, mz_ar 8 (fun i => .int (nI (oa i)))) ∧ (∀ i, i < ol → oa i = ot i) ∧ (∀ i, oa i < 65536) ∧ ol ≤ 8
theorem ou_V_ag {h h' : jx_H} {u ol : Nat} {ot : Nat → Nat} (G : ou_V h u ol ot) (e : mz_ag u (u + 1) h h') : ou_V h' u ol ot := by
  obtain ⟨oa, h1, h2⟩ := G
  exact ⟨oa, mz_ag_at e (by omega) (by omega) h1, h2⟩
/-- the state of the catalogue: board, saved board, boards before the changes, output, input, what is kept -/
abbrev cl_T : Type := mm_T × Option mm_T × Nat × (Nat → mm_T) × (Nat × (Nat → Nat)) × (Nat × (Nat → Nat)) × Int32 × Int32
def cl_ob (C : cl_T) : jx_Ob := (7, [.ref 201, .ref 244, .int (bI C.2.1.isSome), .ref 287, .ref 676, .ref 680, .ref 683, .ref 710, .int (nI C.2.2.2.2.1.1), .int C.2.2.2.2.2.2.1, .int C.2.2.2.2.2.2.2])
def cl_sv (h : jx_H) (o : Option mm_T) : Prop := match o with | some S => bd_R h 244 S | none => bd_V h 244
def cl_J (h : jx_H) (nx : Nat) (C : cl_T) : Prop :=
  h.1 200 = some (cl_ob C) ∧ bd_R h 201 C.1 ∧ cl_sv h C.2.1 ∧ hs_I h 287 nx C.2.2.1 ∧ (∀ k, k < 9 → bd_V h (289 + 43 * k)) ∧ (∀ j, j < C.2.2.1 → bd_R h (289 + 43 * ((nx + 8 - j) % 9)) (C.2.2.2.1 j)) ∧ gs_V h 676 ∧ gu_V h 680 ∧ sc_V h 683 C.2.2.2.2.2.1.1 C.2.2.2.2.2.1.2 ∧ ou_V h 710 C.2.2.2.2.1.1 C.2.2.2.2.1.2
def cl_I (h : jx_H) (C : cl_T) : Prop := ∃ nx, cl_J h nx C
def cl_M (C : cl_T) (M : mm_T) : cl_T := (M, C.2)
/-- a change is kept -/
def cl_push (C : cl_T) (M : mm_T) : cl_T := (C.1, C.2.1, min (C.2.2.1 + 1) 8, (fun j => match j with | 0 => M | j + 1 => C.2.2.2.1 j), C.2.2.2.2)
section CL
variable {xs : List Int32} {h : jx_H} {nx : Nat} {C : cl_T}
theorem cl_is (J : cl_J h nx C) (F : jx_R) : jx_is h 200 7 F = F := jx_is_e J.1 F
theorem cl_0 (J : cl_J h nx C) (F : Nat → jx_R) : jx_gA h 200 7 0 F = F 201 := jx_gA_e J.1 rfl F
theorem cl_1 (J : cl_J h nx C) (F : Nat → jx_R) : jx_gA h 200 7 1 F = F 244 := jx_gA_e J.1 rfl F
theorem cl_2 (J : cl_J h nx C) (F : Int32 → jx_R) : jx_gI h 200 7 2 F = F (bI C.2.1.isSome) := jx_gI_e J.1 rfl F
theorem cl_3 (J : cl_J h nx C) (F : Nat → jx_R) : jx_gA h 200 7 3 F = F 287 := jx_gA_e J.1 rfl F
theorem cl_4 (J : cl_J h nx C) (F : Nat → jx_R) : jx_gA h 200 7 4 F = F 676 := jx_gA_e J.1 rfl F
theorem cl_5 (J : cl_J h nx C) (F : Nat → jx_R) : jx_gA h 200 7 5 F = F 680 := jx_gA_e J.1 rfl F
theorem cl_6 (J : cl_J h nx C) (F : Nat → jx_R) : jx_gA h 200 7 6 F = F 683 := jx_gA_e J.1 rfl F
theorem cl_7 (J : cl_J h nx C) (F : Nat → jx_R) : jx_gA h 200 7 7 F = F 710 := jx_gA_e J.1 rfl F
theorem cl_8 (J : cl_J h nx C) (F : Int32 → jx_R) : jx_gI h 200 7 8 F = F (nI C.2.2.2.2.1.1) := jx_gI_e J.1 rfl F
theorem cl_9 (J : cl_J h nx C) (F : Int32 → jx_R) : jx_gI h 200 7 9 F = F C.2.2.2.2.2.2.1 := jx_gI_e J.1 rfl F
theorem cl_10 (J : cl_J h nx C) (F : Int32 → jx_R) : jx_gI h 200 7 10 F = F C.2.2.2.2.2.2.2 := jx_gI_e J.1 rfl F
theorem cl_bis {M : mm_T} {a : Nat} (R : bd_R h a M) (F : jx_R) : jx_is h a 0 F = F := by obtain ⟨p, A, g, H, -⟩ := R; exact bd_is H F
theorem cl_his {y nx ct : Nat} (G : hs_I h y nx ct) (F : jx_R) : jx_is h y 5 F = F := jx_is_e G.1 F
theorem cl_gis {q : Nat} (G : gs_V h q) (F : jx_R) : jx_is h q 4 F = F := by obtain ⟨_, _, _, _, G⟩ := G; exact gs_is G F
theorem cl_bn {M : mm_T} {a : Nat} (R : bd_R h a M) (F : Int32 → jx_R) : jx_gI h a 0 2 F = F (nI M.1) := by obtain ⟨p, A, g, H, -⟩ := R; exact bd_n H F
/-- the board alone has changed -/
theorem cl_J_b {h' : jx_H} {M : mm_T} (J : cl_J h nx C) (R : bd_R h' 201 M) (e : mz_eq 201 244 h h') : cl_J h' nx (cl_M C M) := by
  obtain ⟨j1, j2, j3, j4, j5, j6, j7, j8, j9, j10⟩ := J
  refine ⟨mz_eq_at e (by omega) j1, R, ?_, hs_ag j4 (mz_ag_eq e (by omega)), fun k hk => bd_V_ag (j5 k hk) (mz_ag_eq e (by omega)), fun j hj => bd_R_ag (j6 j hj) (mz_ag_eq e (by omega)), gs_V_ag j7 (mz_ag_eq e (by omega)), gu_V_ag j8 (mz_ag_eq e (by omega)), sc_V_ag j9 (mz_ag_eq e (by omega)), ou_V_ag j10 (mz_ag_eq e (by omega))⟩
  show cl_sv h' C.2.1
  unfold cl_sv at j3 ⊢
  split
  · rename_i S e2; rw [e2] at j3; exact bd_R_ag j3 (mz_ag_eq e (by omega))
  · rename_i e2; rw [e2] at j3; exact bd_V_ag j3 (mz_ag_eq e (by omega))
/-- .. or the guesses alone -/
theorem cl_J_g {h' : jx_H} (J : cl_J h nx C) (G : gs_V h' 676) (e : mz_eq 676 680 h h') : cl_J h' nx C := by
  obtain ⟨j1, j2, j3, j4, j5, j6, j7, j8, j9, j10⟩ := J
  refine ⟨mz_eq_at e (by omega) j1, bd_R_ag j2 (mz_ag_eq e (by omega)), ?_, hs_ag j4 (mz_ag_eq e (by omega)), fun k hk => bd_V_ag (j5 k hk) (mz_ag_eq e (by omega)), fun j hj => bd_R_ag (j6 j hj) (mz_ag_eq e (by omega)), G, gu_V_ag j8 (mz_ag_eq e (by omega)), sc_V_ag j9 (mz_ag_eq e (by omega)), ou_V_ag j10 (mz_ag_eq e (by omega))⟩
  unfold cl_sv at j3 ⊢
  split
  · rename_i S e2; rw [e2] at j3; exact bd_R_ag j3 (mz_ag_eq e (by omega))
  · rename_i e2; rw [e2] at j3; exact bd_V_ag j3 (mz_ag_eq e (by omega))
/-- .. or the groups -/
theorem cl_J_u {h' : jx_H} (J : cl_J h nx C) (G : gu_V h' 680) (e : mz_eq 680 683 h h') : cl_J h' nx C := by
  obtain ⟨j1, j2, j3, j4, j5, j6, j7, j8, j9, j10⟩ := J
  refine ⟨mz_eq_at e (by omega) j1, bd_R_ag j2 (mz_ag_eq e (by omega)), ?_, hs_ag j4 (mz_ag_eq e (by omega)), fun k hk => bd_V_ag (j5 k hk) (mz_ag_eq e (by omega)), fun j hj => bd_R_ag (j6 j hj) (mz_ag_eq e (by omega)), gs_V_ag j7 (mz_ag_eq e (by omega)), G, sc_V_ag j9 (mz_ag_eq e (by omega)), ou_V_ag j10 (mz_ag_eq e (by omega))⟩
  unfold cl_sv at j3 ⊢
  split
  · rename_i S e2; rw [e2] at j3; exact bd_R_ag j3 (mz_ag_eq e (by omega))
  · rename_i e2; rw [e2] at j3; exact bd_V_ag j3 (mz_ag_eq e (by omega))
/-- the board before the change is copied -/
theorem cl_prep (J : cl_J h nx C) : ∃ h', jx_A 43 [.ref 287, .ref 201] h = some (.inl none, h') ∧ cl_J h' nx C ∧ bd_R h' (289 + 43 * nx) C.1 ∧ mz_eq 289 676 h h' := by
  obtain ⟨j1, j2, j3, j4, j5, j6, j7, j8, j9, j10⟩ := J
  have hx : nx < 9 := j4.2.2.1
  obtain ⟨h1, x1, R1, t1⟩ := m_1 (a := 289 + 43 * nx) j2 (j5 nx hx) (by omega)
  refine ⟨h1, ?_, ⟨mz_eq_at t1 (by omega) j1, bd_R_ag j2 (mz_ag_eq t1 (by omega)), ?_, hs_ag j4 (mz_ag_eq t1 (by omega)), fun k hk => ?_, fun j hj => bd_R_ag (j6 j hj) (mz_ag_eq t1 (by have := j4.2.2.2.1; omega)), gs_V_ag j7 (mz_ag_eq t1 (by omega)), gu_V_ag j8 (mz_ag_eq t1 (by omega)), sc_V_ag j9 (mz_ag_eq t1 (by omega)), ou_V_ag j10 (mz_ag_eq t1 (by omega))⟩, R1, mz_eq_wd t1 (by omega) (by omega)⟩
  · rw [a_43, cl_his j4, jx_cA_e (m_44 j4)]
    have hv : ∀ F, jx_is h (287 + 2 + 43 * nx) 0 F = F := fun F => by
      obtain ⟨_, _, _, _, _, H, -⟩ := j5 nx hx
      exact bd_is H F
    rw [hv, jx_cV_e x1]
  · unfold cl_sv at j3 ⊢
    split
    · rename_i S e2; rw [e2] at j3; exact bd_R_ag j3 (mz_ag_eq t1 (by omega))
    · rename_i e2; rw [e2] at j3; exact bd_V_ag j3 (mz_ag_eq t1 (by omega))
  · by_cases q : k = nx
    · subst q; exact bd_R_V R1
    · exact bd_V_ag (j5 k hk) (mz_ag_eq t1 (by omega))
/-- the change is kept -/
theorem cl_settle (J : cl_J h nx C) {M0 : mm_T} (R : bd_R h (289 + 43 * nx) M0) {r : Nat} (hr : r < 2 ^ 30) : ∃ h', jx_A 114 [.ref 200, .int (nI r)] h = some (.inl (some (.int (nI r))), h') ∧ cl_J h' ((nx + 1) % 9) (cl_push C M0) ∧ mz_eq 287 288 h h' := by
  obtain ⟨j1, j2, j3, j4, j5, j6, j7, j8, j9, j10⟩ := id J
  have hx : nx < 9 := j4.2.2.1
  have hc : C.2.2.1 ≤ 8 := j4.2.2.2.1
  obtain ⟨h1, x1, G1, t1⟩ := m_45 j4
  refine ⟨h1, ?_, ⟨mz_eq_at t1 (by omega) j1, bd_R_ag j2 (mz_ag_eq t1 (by omega)), ?_, G1, fun k hk => bd_V_ag (j5 k hk) (mz_ag_eq t1 (by omega)), fun j hj => ?_, gs_V_ag j7 (mz_ag_eq t1 (by omega)), gu_V_ag j8 (mz_ag_eq t1 (by omega)), sc_V_ag j9 (mz_ag_eq t1 (by omega)), ou_V_ag j10 (mz_ag_eq t1 (by omega))⟩, t1⟩
  · have ne : ∀ z : Int, -4 ≤ z → z < 0 → ¬ nI r = zI z := fun z h1 h2 e => by
      have := congrArg Int32.toInt e
      rw [nI_toInt (by omega), zI_toInt (by omega) (by omega)] at this
      omega
    have e : jx_A 115 [.int (nI r)] h = some (.inl none, h) := by
      rw [a_115, if_neg (fun q => ne (-4) (by decide) (by decide) (q.trans (by decide +kernel))), if_neg (fun q => ne (-3) (by decide) (by decide) (q.trans (by decide +kernel))), if_neg (fun q => ne (-2) (by decide) (by decide) (q.trans (by decide +kernel))), if_neg (fun q => ne (-1) (by decide) (by decide) (q.trans (by decide +kernel)))]
    rw [a_114, jx_cV_e e, cl_3 J, cl_his j4, jx_cV_e x1]
  · show cl_sv h1 C.2.1
    unfold cl_sv at j3 ⊢
    split
    · rename_i S e2; rw [e2] at j3; exact bd_R_ag j3 (mz_ag_eq t1 (by omega))
    · rename_i e2; rw [e2] at j3; exact bd_V_ag j3 (mz_ag_eq t1 (by omega))
  · have hj' : j < min (C.2.2.1 + 1) 8 := hj
    cases j with
    | zero =>
      show bd_R h1 (289 + 43 * (((nx + 1) % 9 + 8 - 0) % 9)) M0
      rw [show ((nx + 1) % 9 + 8 - 0) % 9 = nx by omega]
      exact bd_R_ag R (mz_ag_eq t1 (by omega))
    | succ j =>
      show bd_R h1 (289 + 43 * (((nx + 1) % 9 + 8 - (j + 1)) % 9)) (C.2.2.2.1 j)
      rw [show ((nx + 1) % 9 + 8 - (j + 1)) % 9 = (nx + 8 - j) % 9 by omega]
      exact bd_R_ag (j6 j (by omega)) (mz_ag_eq t1 (by omega))
def cl_ex (e : Int32) (s : String) : Prop := (e = -4 ∧ s = "java/lang/IllegalStateException") ∨ (e = -3 ∧ s = "java/lang/IllegalArgumentException") ∨ (e = -2 ∧ s = "java/lang/IndexOutOfBoundsException") ∨ (e = -1 ∧ s = "java/util/NoSuchElementException")
theorem cl_refuse {v0 : Nat} {e : Int32} {s : String} (q : cl_ex e s) : jx_A 114 [.ref v0, .int e] h = some (.inr s, jx_thr h) := by
  have : jx_A 115 [.int e] h = some (.inr s, jx_thr h) := by
    rw [a_115]
    rcases q with ⟨rfl, rfl⟩ | ⟨rfl, rfl⟩ | ⟨rfl, rfl⟩ | ⟨rfl, rfl⟩
    · rw [if_pos rfl]
    · rw [if_neg (by decide), if_pos rfl]
    · rw [if_neg (by decide), if_neg (by decide), if_pos rfl]
    · rw [if_neg (by decide), if_neg (by decide), if_neg (by decide), if_pos rfl]
  rw [a_114, jx_cV_x this]
/-- a change of the class: it is kept, or refused with an exception -/
def cl_C (h : jx_H) (C : cl_T) (X : jx_R) (ok : Int32 → mm_T → Prop) (no : Int32 → Prop) : Prop :=
  (∃ r M' h', ok r M' ∧ X = some (.inl (some (.int r)), h') ∧ cl_I h' (cl_push (cl_M C M') C.1) ∧ mz_eq 200 711 h h') ∨ (∃ r s h', no r ∧ cl_ex r s ∧ X = some (.inr s, jx_thr h') ∧ cl_I h' C ∧ mz_eq 200 711 h h')
theorem cl_change {X : jx_R} {Y : jx_H → jx_R} {ok : Int32 → mm_T → Prop} {no : Int32 → Prop} (K : mz_K xs h) (J : cl_J h nx C)
    (hY : ∀ h3, mz_K xs h3 → bd_R h3 201 C.1 → bd_C h3 201 (Y h3) ok no) (hok : ∀ r M', ok r M' → ∃ n : Nat, r = nI n ∧ n < 2 ^ 30) (hno : ∀ r, no r → ∃ s, cl_ex r s)
    (hX : ∀ h3, jx_A 43 [.ref 287, .ref 201] h = some (.inl none, h3) → cl_J h3 nx C → X = jx_cI (fun _ _ _ => Y h3) 0 [] h3 (fun y6 h5 => jx_is h5 200 7 (jx_cI jx_A 114 [.ref 200, .int y6] h5 (fun y8 h7 => some (.inl (some (.int y8)), h7))))) : cl_C h C X ok no := by
  obtain ⟨h3, x3, J3, R3, t3⟩ := cl_prep J
  have K3 := mz_K_eq K t3 (by decide)
  rcases hY h3 K3 J3.2.1 with ⟨r, ⟨M', h5, q1, q2, q3, q4⟩ | ⟨q1, q2⟩⟩
  · obtain ⟨n, rfl, hn⟩ := hok r M' q1
    have J5 := cl_J_b J3 q3 q4
    have R5 : bd_R h5 (289 + 43 * nx) C.1 := bd_R_ag R3 (mz_ag_eq q4 (by omega))
    obtain ⟨h7, x7, J7, t7⟩ := cl_settle J5 R5 hn
    refine Or.inl ⟨_, M', h7, q1, ?_, ⟨_, J7⟩, mz_eq_tr (mz_eq_wd t3 (by omega) (by omega)) (mz_eq_tr (mz_eq_wd q4 (by omega) (by omega)) (mz_eq_wd t7 (by omega) (by omega)))⟩
    rw [hX h3 x3 J3, jx_cI_e (C := fun _ _ _ => Y h3) q2, cl_is J5, jx_cI_e x7]
  · obtain ⟨s, hs⟩ := hno r q1
    refine Or.inr ⟨r, s, h3, q1, hs, ?_, ⟨nx, J3⟩, mz_eq_wd t3 (by omega) (by omega)⟩
    rw [hX h3 x3 J3, jx_cI_e (C := fun _ _ _ => Y h3) q2, cl_is J3, jx_cI_x (cl_refuse hs)]
end CL
end JX
