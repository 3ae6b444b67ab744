/-! The class's changes. -/
section JX
abbrev eNS : String := "java/util/NoSuchElementException"
abbrev eIO : String := "java/lang/IndexOutOfBoundsException"
abbrev eIA : String := "java/lang/IllegalArgumentException"
abbrev eIS : String := "java/lang/IllegalStateException"
abbrev eUO : String := "java/lang/UnsupportedOperationException"
abbrev eAR : String := "java/lang/ArithmeticException"
theorem bd_R_ok {h : jx_H} {a : Nat} {M : mm_T} (R : bd_R h a M) : M.1 ≤ 20 ∧ M.2.1 < 2 ^ 30 ∧ ∀ k, k < M.1 → fg_ok (M.2.2.1 k) := by
  obtain ⟨p, A, g, H, W, hF, ho⟩ := R
  exact ⟨bd_n20 H, H.2.2.2.2.2.1, fun k hk => by rw [← hF k hk]; exact bd_ok H (bd_p H hk)⟩
theorem mm_ms_le (o : Nat → Option fg_T) (kd c : Nat) : mm_ms o kd c ≤ 4 := by
  have := mz_su_le (f := fun s => (mm_ct o c s == kd).toNat) (b := 1) (n := 4) (fun i _ => Bool.toNat_le _)
  exact this
theorem mm_es_le (o : Nat → Option fg_T) (kd : Nat) (f : fg_T) : mm_es o kd f ≤ 2 := by
  unfold mm_es
  split
  · omega
  · rename_i c _
    have h1 := Bool.toNat_le (mm_ct o c 1 == kd)
    have h2 := Bool.toNat_le (mm_ct o c 2 == kd)
    omega
theorem mm_pr_le (M : mm_T) (kd : Nat) : mm_pr M kd ≤ M.1 * 2 := mz_su_le (fun k _ => mm_es_le _ _ _)
section CL
variable {xs : List Int32} {h : jx_H} {C : cl_T}
theorem c_60 (K : mz_K xs h) (I : cl_I h C) (hx : C.1.2.1 + 1 < 2 ^ 30) (c n e s w : Int32) : cl_C h C (jx_A 60 [.ref 200, .int c, .int n, .int e, .int s, .int w] h) (ok_add C.1 c n e s w) (no_add C.1 c n e s w) := by
  obtain ⟨nx, J⟩ := I
  refine cl_change (Y := fun h3 => jx_A 6 [.ref 201, .int c, .int n, .int e, .int s, .int w] h3) K J (fun h3 _ R => m_6 R hx c n e s w) ?_ ?_ (fun h3 x3 J3 => ?_)
  · rintro r M' ⟨c', n', e', s', w', -, -, -, -, -, -, rfl, -⟩
    exact ⟨_, rfl, by omega⟩
  · rintro r (⟨-, rfl⟩ | ⟨-, -, -, -, -, -, rfl⟩)
    · exact ⟨_, Or.inr (Or.inl ⟨rfl, rfl⟩)⟩
    · exact ⟨_, Or.inl ⟨rfl, rfl⟩⟩
  · rw [a_60, cl_3 J, cl_0 J, cl_his J.2.2.2.1, jx_cV_e x3, cl_0 J3, cl_bis J3.2.1]; rfl
theorem c_61 (K : mz_K xs h) (I : cl_I h C) (v : Int32) : cl_C h C (jx_A 61 [.ref 200, .int v] h) (ok_drop C.1 v) (no_drop C.1 v) := by
  obtain ⟨nx, J⟩ := I
  have ok := bd_R_ok J.2.1
  refine cl_change (Y := fun h3 => jx_A 7 [.ref 201, .int v] h3) K J (fun h3 _ R => m_7 R v) ?_ ?_ (fun h3 x3 J3 => ?_)
  · rintro r M' ⟨k, -, -, rfl, -⟩
    exact ⟨_, rfl, by omega⟩
  · rintro r (⟨-, rfl⟩ | ⟨k, -, -, rfl⟩)
    · exact ⟨_, Or.inr (Or.inr (Or.inr ⟨rfl, rfl⟩))⟩
    · exact ⟨_, Or.inl ⟨rfl, rfl⟩⟩
  · rw [a_61, cl_3 J, cl_0 J, cl_his J.2.2.2.1, jx_cV_e x3, cl_0 J3, cl_bis J3.2.1]; rfl
theorem c_72 (K : mz_K xs h) (I : cl_I h C) (v y x : Int32) : cl_C h C (jx_A 72 [.ref 200, .int v, .int y, .int x] h) (ok_put C.1 v y x) (no_put C.1 v y x) := by
  obtain ⟨nx, J⟩ := I
  refine cl_change (Y := fun h3 => jx_A 8 [.ref 201, .int v, .int y, .int x] h3) K J (fun h3 K3 R => m_8 K3 R v y x) ?_ ?_ (fun h3 x3 J3 => ?_)
  · rintro r M' ⟨k, i, j, -, -, -, -, -, -, -, rfl, -⟩
    exact ⟨_, rfl, by have := mm_ms_le M'.2.2.2 1 (8 * i + j); omega⟩
  · rintro r (⟨-, rfl⟩ | ⟨k, -, ⟨-, rfl⟩ | ⟨i, j, -, -, -, -, -, rfl⟩⟩)
    · exact ⟨_, Or.inr (Or.inr (Or.inr ⟨rfl, rfl⟩))⟩
    · exact ⟨_, Or.inr (Or.inr (Or.inl ⟨rfl, rfl⟩))⟩
    · exact ⟨_, Or.inl ⟨rfl, rfl⟩⟩
  · rw [a_72, cl_3 J, cl_0 J, cl_his J.2.2.2.1, jx_cV_e x3, cl_0 J3, cl_bis J3.2.1]; rfl
theorem c_73 (K : mz_K xs h) (I : cl_I h C) (v : Int32) : cl_C h C (jx_A 73 [.ref 200, .int v] h) (ok_take C.1 v) (no_take C.1 v) := by
  obtain ⟨nx, J⟩ := I
  refine cl_change (Y := fun h3 => jx_A 10 [.ref 201, .int v] h3) K J (fun h3 K3 R => m_10 K3 R v) ?_ ?_ (fun h3 x3 J3 => ?_)
  · rintro r M' ⟨k, c, -, -, -, rfl, -⟩
    exact ⟨_, rfl, by have := mm_ms_le C.1.2.2.2 1 c; omega⟩
  · rintro r (⟨-, rfl⟩ | ⟨k, -, -, rfl⟩)
    · exact ⟨_, Or.inr (Or.inr (Or.inr ⟨rfl, rfl⟩))⟩
    · exact ⟨_, Or.inl ⟨rfl, rfl⟩⟩
  · rw [a_73, cl_3 J, cl_0 J, cl_his J.2.2.2.1, jx_cV_e x3, cl_0 J3, cl_bis J3.2.1]; rfl
theorem c_74 (K : mz_K xs h) (I : cl_I h C) (v t : Int32) : cl_C h C (jx_A 74 [.ref 200, .int v, .int t] h) (ok_turn C.1 v t) (no_turn C.1 v t) := by
  obtain ⟨nx, J⟩ := I
  have ok := bd_R_ok J.2.1
  refine cl_change (Y := fun h3 => jx_A 11 [.ref 201, .int v, .int t] h3) K J (fun h3 K3 R => m_11 R v t) ?_ ?_ (fun h3 x3 J3 => ?_)
  · rintro r M' ⟨k, t', hf, -, -, rfl, -⟩
    exact ⟨_, rfl, by have := (ok.2.2 k hf.1).2.2.2.1; omega⟩
  · rintro r (⟨-, rfl⟩ | ⟨k, -, -, rfl⟩)
    · exact ⟨_, Or.inr (Or.inr (Or.inr ⟨rfl, rfl⟩))⟩
    · exact ⟨_, Or.inr (Or.inl ⟨rfl, rfl⟩)⟩
  · rw [a_74, cl_3 J, cl_0 J, cl_his J.2.2.2.1, jx_cV_e x3, cl_0 J3, cl_bis J3.2.1]; rfl
theorem c_75 (K : mz_K xs h) (I : cl_I h C) (v w : Int32) : cl_C h C (jx_A 75 [.ref 200, .int v, .int w] h) (ok_swap C.1 v w) (no_swap C.1 v w) := by
  obtain ⟨nx, J⟩ := I
  have ok := bd_R_ok J.2.1
  refine cl_change (Y := fun h3 => jx_A 12 [.ref 201, .int v, .int w] h3) K J (fun h3 K3 R => m_12 K3 R v w) ?_ ?_ (fun h3 x3 J3 => ?_)
  · rintro r M' ⟨k, l, c, d, -, -, -, -, -, -, -, rfl, rfl⟩
    exact ⟨_, rfl, by have h1 := mm_pr_le (mm_sw C.1 k l c d) 1; have h2 : (mm_sw C.1 k l c d).1 = C.1.1 := rfl; omega⟩
  · rintro r (⟨-, rfl⟩ | ⟨k, -, -, rfl⟩ | ⟨k, l, -, -, -, -, rfl⟩)
    · exact ⟨_, Or.inr (Or.inr (Or.inr ⟨rfl, rfl⟩))⟩
    · exact ⟨_, Or.inr (Or.inl ⟨rfl, rfl⟩)⟩
    · exact ⟨_, Or.inl ⟨rfl, rfl⟩⟩
  · rw [a_75, cl_3 J, cl_0 J, cl_his J.2.2.2.1, jx_cV_e x3, cl_0 J3, cl_bis J3.2.1]; rfl
theorem cl_J_bg {nx : Nat} {h' : jx_H} {M : mm_T} (J : cl_J h nx C) (R : bd_R h' 201 M) (G : gs_V h' 676) (e : mz_e2 201 244 676 680 h h') : cl_J h' nx (cl_M C M) := by
  obtain ⟨j1, j2, j3, j4, j5, j6, j7, j8, j9, j10⟩ := J
  have ag : ∀ lo hi, (hi ≤ 201 ∨ 244 ≤ lo) → (hi ≤ 676 ∨ 680 ≤ lo) → mz_ag lo hi h h' := fun lo hi a b q c d => e.1 q (by omega) (by omega)
  refine ⟨(e.1 200 (by omega) (by omega)).trans j1, R, ?_, hs_ag j4 (ag _ _ (by omega) (by omega)), fun k hk => bd_V_ag (j5 k hk) (ag _ _ (by omega) (by omega)), fun j hj => bd_R_ag (j6 j hj) (ag _ _ (by omega) (by omega)), G, gu_V_ag j8 (ag _ _ (by omega) (by omega)), sc_V_ag j9 (ag _ _ (by omega) (by omega)), ou_V_ag j10 (ag _ _ (by omega) (by omega))⟩
  show cl_sv h' C.2.1
  unfold cl_sv at j3 ⊢
  split
  · rename_i S e2; rw [e2] at j3; exact bd_R_ag j3 (ag _ _ (by omega) (by omega))
  · rename_i e2; rw [e2] at j3; exact bd_V_ag j3 (ag _ _ (by omega) (by omega))
theorem mz_e2_eq {lo hi lo2 hi2 lo3 hi3 : Nat} {h' : jx_H} (e : mz_e2 lo hi lo2 hi2 h h') (h1 : lo3 ≤ lo) (h2 : hi ≤ hi3) (h3 : lo3 ≤ lo2) (h4 : hi2 ≤ hi3) : mz_eq lo3 hi3 h h' := ⟨fun q k => e.1 q (by omega) (by omega), e.2⟩
theorem c_77 (K : mz_K xs h) (I : cl_I h C) : ∃ r M' h', mm_fl 20 C.1 r M' ∧ r ≤ 20 ∧ jx_A 77 [.ref 200] h = some (.inl (some (.int (nI r))), h') ∧ cl_I h' (cl_push (cl_M C M') C.1) ∧ mz_eq 200 711 h h' := by
  obtain ⟨nx, J⟩ := I
  obtain ⟨h3, x3, J3, R3, t3⟩ := cl_prep J
  have K3 := mz_K_eq K t3 (by decide)
  obtain ⟨h5, r, M', q1, q2, x5, R5, G5, t5⟩ := m_41 (q := 676) K3 J3.2.1 J3.2.2.2.2.2.2.1 (by omega)
  have J5 := cl_J_bg J3 R5 G5 t5
  have R6 : bd_R h5 (289 + 43 * nx) C.1 := bd_R_ag R3 (fun q a b => t5.1 q (by omega) (by have := J.2.2.2.1.2.2.1; omega))
  obtain ⟨h7, x7, J7, t7⟩ := cl_settle J5 R6 (r := r) (by omega)
  refine ⟨r, M', h7, q1, q2, ?_, ⟨_, J7⟩, mz_eq_tr (mz_eq_wd t3 (by omega) (by omega)) (mz_eq_tr (mz_e2_eq t5 (by omega) (by omega) (by omega) (by omega)) (mz_eq_wd t7 (by omega) (by omega)))⟩
  rw [a_77, cl_3 J, cl_0 J, cl_his J.2.2.2.1, jx_cV_e x3, cl_4 J3, cl_0 J3, cl_gis J3.2.2.2.2.2.2.1, jx_cI_e x5, cl_is J5, jx_cI_e x7]
-- undoing, saving
/-- the latest change is gone back -/
def cl_pop (C : cl_T) : cl_T := (C.2.2.2.1 0, C.2.1, C.2.2.1 - 1, (fun j => C.2.2.2.1 (j + 1)), C.2.2.2.2)
def cl_save (C : cl_T) : cl_T := (C.1, some C.1, C.2.2)
def cl_rest (C : cl_T) (S : mm_T) : cl_T := (S, C.2.1, 0, C.2.2.2)
theorem cl_J_rest {nx : Nat} {h' : jx_H} (J : cl_J h nx C) (e : mz_eq 201 244 h h') : h'.1 200 = some (cl_ob C) ∧ cl_sv h' C.2.1 ∧ hs_I h' 287 nx C.2.2.1 ∧ (∀ k, k < 9 → bd_V h' (289 + 43 * k)) ∧ (∀ j, j < C.2.2.1 → bd_R h' (289 + 43 * ((nx + 8 - j) % 9)) (C.2.2.2.1 j)) ∧ gs_V h' 676 ∧ gu_V h' 680 ∧ sc_V h' 683 C.2.2.2.2.2.1.1 C.2.2.2.2.2.1.2 ∧ ou_V h' 710 C.2.2.2.2.1.1 C.2.2.2.2.1.2 := by
  have R : bd_R h 201 C.1 := J.2.1
  obtain ⟨j1, j2, j3, j4, j5, j6, j7, j8, j9, j10⟩ := J
  refine ⟨mz_eq_at e (by omega) j1, ?_, hs_ag j4 (mz_ag_eq e (by omega)), fun k hk => bd_V_ag (j5 k hk) (mz_ag_eq e (by omega)), fun j hj => bd_R_ag (j6 j hj) (mz_ag_eq e (by omega)), gs_V_ag j7 (mz_ag_eq e (by omega)), gu_V_ag j8 (mz_ag_eq e (by omega)), sc_V_ag j9 (mz_ag_eq e (by omega)), ou_V_ag j10 (mz_ag_eq e (by omega))⟩
  unfold cl_sv at j3 ⊢
  split
  · rename_i S e2; rw [e2] at j3; exact bd_R_ag j3 (mz_ag_eq e (by omega))
  · rename_i e2; rw [e2] at j3; exact bd_V_ag j3 (mz_ag_eq e (by omega))
theorem c_110 (I : cl_I h C) : (C.2.2.1 = 0 ∧ jx_A 110 [.ref 200] h = some (.inr eIS, jx_thr h)) ∨ (C.2.2.1 ≠ 0 ∧ ∃ h', jx_A 110 [.ref 200] h = some (.inl (some (.int (nI (C.2.2.1 - 1)))), h') ∧ cl_I h' (cl_pop C) ∧ mz_eq 200 711 h h') := by
  obtain ⟨nx, J⟩ := I
  have J0 := J
  obtain ⟨j1, j2, j3, j4, j5, j6, j7, j8, j9, j10⟩ := J
  have hx : nx < 9 := j4.2.2.1
  have hc8 : C.2.2.1 ≤ 8 := j4.2.2.2.1
  by_cases hc : C.2.2.1 = 0
  · refine Or.inl ⟨hc, ?_⟩
    rw [a_110, cl_3 J0, jx_gI_e j4.1 rfl, hc, if_pos (by decide)]
  · obtain ⟨ct, hct⟩ : ∃ ct, C.2.2.1 = ct + 1 := ⟨C.2.2.1 - 1, by omega⟩
    rw [hct] at j4
    obtain ⟨h1, x1, G1, t1⟩ := m_46 j4
    have R0 := j6 0 (by omega)
    have R1 : bd_R h1 (289 + 43 * ((nx + 8) % 9)) (C.2.2.2.1 0) := bd_R_ag R0 (mz_ag_eq t1 (by omega))
    obtain ⟨h2, x2, R2, t2⟩ := m_1 (a := 201) R1 (bd_R_V (bd_R_ag j2 (mz_ag_eq t1 (by omega)))) (by omega)
    have T : mz_eq 200 711 h h2 := mz_eq_tr (mz_eq_wd t1 (by omega) (by omega)) (mz_eq_wd t2 (by omega) (by omega))
    have ag : ∀ lo hi, (hi ≤ 287 ∨ 288 ≤ lo) → (hi ≤ 201 ∨ 244 ≤ lo) → mz_ag lo hi h h2 := fun lo hi a b q c d => (t2.1 q (by omega)).trans (t1.1 q (by omega))
    have o2 : h2.1 200 = some (cl_ob C) := ((t2.1 200 (by omega)).trans (t1.1 200 (by omega))).trans j1
    have G2 : hs_I h2 287 ((nx + 8) % 9) ct := hs_ag G1 (mz_ag_eq t2 (by omega))
    refine Or.inr ⟨hc, h2, ?_, ⟨(nx + 8) % 9, o2, R2, ?_, ?_, fun k hk => bd_V_ag (j5 k hk) (ag _ _ (by omega) (by omega)), fun j hj => ?_, gs_V_ag j7 (ag _ _ (by omega) (by omega)), gu_V_ag j8 (ag _ _ (by omega) (by omega)), sc_V_ag j9 (ag _ _ (by omega) (by omega)), ou_V_ag j10 (ag _ _ (by omega) (by omega))⟩, T⟩
    · rw [a_110, cl_3 J0, jx_gI_e j4.1 rfl, if_neg (nI_ne0 (by omega) (by omega)), cl_0 J0, cl_3 J0, cl_his j4, jx_cA_e x1, cl_bis (bd_R_ag j2 (mz_ag_eq t1 (by omega))), jx_cV_e x2, jx_gA_e o2 rfl, jx_gI_e G2.1 rfl, hct]
      rfl
    · show cl_sv h2 C.2.1
      unfold cl_sv at j3 ⊢
      split
      · rename_i S e2; rw [e2] at j3; exact bd_R_ag j3 (ag _ _ (by omega) (by omega))
      · rename_i e2; rw [e2] at j3; exact bd_V_ag j3 (ag _ _ (by omega) (by omega))
    · show hs_I h2 287 _ (C.2.2.1 - 1)
      rw [hct]; exact G2
    · have hj' : j < C.2.2.1 - 1 := hj
      show bd_R h2 (289 + 43 * (((nx + 8) % 9 + 8 - j) % 9)) (C.2.2.2.1 (j + 1))
      rw [show ((nx + 8) % 9 + 8 - j) % 9 = (nx + 8 - (j + 1)) % 9 by omega]
      exact bd_R_ag (j6 (j + 1) (by omega)) (ag _ _ (by omega) (by omega))
theorem c_112 (I : cl_I h C) : ∃ h', jx_A 112 [.ref 200] h = some (.inl (some (.int (nI C.1.1))), h') ∧ cl_I h' (cl_save C) ∧ mz_eq 200 711 h h' := by
  obtain ⟨nx, J⟩ := I
  have J0 := J
  obtain ⟨j1, j2, j3, j4, j5, j6, j7, j8, j9, j10⟩ := J
  have V : bd_V h 244 := by
    unfold cl_sv at j3
    split at j3
    · exact bd_R_V j3
    · exact j3
  obtain ⟨h1, x1, R1, t1⟩ := m_1 (a := 244) j2 V (by omega)
  have o1 : h1.1 200 = some (cl_ob C) := mz_eq_at t1 (by omega) j1
  have x2 : ∀ F, jx_pt h1 200 7 2 (.int 1) F = F (jx_set h1 200 (cl_ob (cl_save C))) := fun F => jx_pt_e o1 (by decide) (by show 2 < 11; decide) F
  have t2 : mz_eq 200 201 h1 (jx_set h1 200 (cl_ob (cl_save C))) := mz_eq_st (by omega) (by omega)
  have ag : ∀ lo hi, 201 ≤ lo → (hi ≤ 244 ∨ 287 ≤ lo) → mz_ag lo hi h (jx_set h1 200 (cl_ob (cl_save C))) := fun lo hi a b q c d => (t2.1 q (by omega)).trans (t1.1 q (by omega))
  have B2 := bd_R_ag j2 (ag 201 _ (by omega) (by omega))
  refine ⟨_, ?_, ⟨nx, mz_set_e, B2, bd_R_ag R1 (mz_ag_eq t2 (by omega)), hs_ag j4 (ag _ _ (by omega) (by omega)), fun k hk => bd_V_ag (j5 k hk) (ag _ _ (by omega) (by omega)), fun j hj => bd_R_ag (j6 j hj) (ag _ _ (by omega) (by omega)), gs_V_ag j7 (ag _ _ (by omega) (by omega)), gu_V_ag j8 (ag _ _ (by omega) (by omega)), sc_V_ag j9 (ag _ _ (by omega) (by omega)), ou_V_ag j10 (ag _ _ (by omega) (by omega))⟩, mz_eq_tr (mz_eq_wd t1 (by omega) (by omega)) (mz_eq_wd t2 (by omega) (by omega))⟩
  have his : ∀ F, jx_is h 244 0 F = F := fun F => by obtain ⟨_, _, _, _, _, H, -⟩ := V; exact bd_is H F
  rw [a_112, cl_1 J0, cl_0 J0, his, jx_cV_e x1, x2, jx_gA_e (show (jx_set h1 200 (cl_ob (cl_save C))).1 200 = some (7, (cl_ob (cl_save C)).2) from mz_set_e) rfl, cl_bn B2]
theorem c_113 (I : cl_I h C) : (C.2.1 = none ∧ jx_A 113 [.ref 200] h = some (.inr eIS, jx_thr h)) ∨ (∃ S, C.2.1 = some S ∧ ∃ h', jx_A 113 [.ref 200] h = some (.inl (some (.int (nI S.1))), h') ∧ cl_I h' (cl_rest C S) ∧ mz_eq 200 711 h h') := by
  obtain ⟨nx, J⟩ := I
  have J0 := J
  obtain ⟨j1, j2, j3, j4, j5, j6, j7, j8, j9, j10⟩ := J
  cases es : C.2.1 with
  | none =>
    refine Or.inl ⟨rfl, ?_⟩
    rw [a_113, cl_2 J0, es, if_pos (by decide)]
  | some S =>
    unfold cl_sv at j3
    rw [es] at j3
    have j3' : bd_R h 244 S := j3
    obtain ⟨h1, x1, R1, t1⟩ := m_1 (a := 201) j3' (bd_R_V j2) (by omega)
    have o1 : h1.1 200 = some (cl_ob C) := mz_eq_at t1 (by omega) j1
    have G1 := hs_ag j4 (mz_ag_eq t1 (by omega))
    obtain ⟨h2, x2, G2, t2⟩ := m_47 G1
    have o2 : h2.1 200 = some (cl_ob C) := mz_eq_at t2 (by omega) o1
    have ag : ∀ lo hi, 244 ≤ lo → (hi ≤ 287 ∨ 288 ≤ lo) → mz_ag lo hi h h2 := fun lo hi a b q c d => (t2.1 q (by omega)).trans (t1.1 q (by omega))
    have R2 := bd_R_ag R1 (mz_ag_eq t2 (by omega))
    refine Or.inr ⟨S, rfl, h2, ?_, ⟨nx, o2, R2, ?_, G2, fun k hk => bd_V_ag (j5 k hk) (ag _ _ (by omega) (by omega)), fun j hj => absurd hj (Nat.not_lt_zero j), gs_V_ag j7 (ag _ _ (by omega) (by omega)), gu_V_ag j8 (ag _ _ (by omega) (by omega)), sc_V_ag j9 (ag _ _ (by omega) (by omega)), ou_V_ag j10 (ag _ _ (by omega) (by omega))⟩, mz_eq_tr (mz_eq_wd t1 (by omega) (by omega)) (mz_eq_wd t2 (by omega) (by omega))⟩
    · rw [a_113, cl_2 J0, es, if_neg (show ¬ bI (some S).isSome = 0 from (by decide : ¬ bI true = 0)), cl_0 J0, cl_1 J0, cl_bis j2, jx_cV_e x1, jx_gA_e o1 rfl, cl_his G1, jx_cV_e x2, jx_gA_e o2 rfl, cl_bn R2]
    · show cl_sv h2 C.2.1
      rw [es]
      exact bd_R_ag j3' (ag _ _ (by omega) (by omega))
end CL
end JX
