/-! The law's questions. -/
section JX
section SO
variable {M : mm_T}
theorem So_tray (v : Int32) : So ty_I [eIO] (sp_tray M v) := by
  rintro o ⟨t, -, rfl⟩
  cases t with
  | none => exact List.mem_singleton.mpr rfl
  | some k => exact ⟨_, rfl⟩
theorem So_fd {ty : Value → Prop} (v : Int32) {w : Nat → Value} (hw : ∀ k, ty (w k)) : So ty [eNS] (sp_fd M v w) := by
  rintro o ⟨t, -, rfl⟩
  cases t with
  | none => exact List.mem_singleton.mpr rfl
  | some k => exact hw k
theorem So_gd {ty : Value → Prop} (v : Int32) {w : Nat → Nat → Value} (hw : ∀ k c, ty (w k c)) : So ty [eNS] (sp_gd M v w) := by
  rintro o ⟨t, -, rfl⟩
  cases t with
  | none => exact List.mem_singleton.mpr rfl
  | some k => exact hw k.1 k.2
theorem So_edge (v s : Int32) : So ty_I [eNS, eIA] (sp_edge M v s) := by
  rintro o ⟨t, -, q⟩
  cases t with
  | none => rw [show o = .inr eNS from q]; exact List.mem_cons_self ..
  | some k =>
    obtain ⟨u, -, rfl⟩ := q
    cases u with
    | none => exact List.mem_cons_of_mem _ (List.mem_cons_self ..)
    | some s' => exact ⟨_, rfl⟩
theorem So_fits (v s : Int32) : So ty_I [eNS, eIA] (sp_fits M v s) := by
  rintro o ⟨t, -, q⟩
  cases t with
  | none => rw [show o = .inr eNS from q]; exact List.mem_cons_self ..
  | some k =>
    obtain ⟨u, -, rfl⟩ := q
    cases u with
    | none => exact List.mem_cons_of_mem _ (List.mem_cons_self ..)
    | some s' => exact ⟨_, rfl⟩
theorem So_emp (y x : Int32) : So ty_I [eIO] (sp_emp M y x) := by
  rintro o ⟨t, -, rfl⟩
  cases t with
  | none => exact List.mem_singleton.mpr rfl
  | some k => exact ⟨_, rfl⟩
theorem So_fat (y x : Int32) : So ty_I [eIO, eNS] (sp_fat M y x) := by
  rintro o ⟨t, -, rfl⟩
  cases t with
  | none => exact List.mem_cons_self ..
  | some c =>
    dsimp only
    cases M.2.2.2 c with
    | none => exact List.mem_cons_of_mem _ (List.mem_cons_self ..)
    | some f => exact ⟨_, rfl⟩
theorem So_gap {y x : Int32} {ty : Value → Prop} {l : List String} {P : Nat → q_O → Prop} (h : ∀ c, So ty (eIO :: eUO :: l) (P c)) : So ty (eIO :: eUO :: l) (sp_gap M y x P) := by
  rintro o ⟨t, -, q⟩
  cases t with
  | none => rw [show o = .inr eIO from q]; exact List.mem_cons_self ..
  | some c =>
    rcases q with ⟨-, rfl⟩ | ⟨-, q⟩
    · exact List.mem_cons_of_mem _ (List.mem_cons_self ..)
    · exact h c o q
theorem So_outl (y x : Int32) : So ty_I [eIO, eUO] (sp_outl M y x) := So_gap (fun c o q => by rw [show o = .inl _ from q]; exact ⟨_, rfl⟩)
theorem So_rank (y x r : Int32) : So ty_I [eIO, eUO, eNS] (sp_rank M y x r) := So_gap (fun c o q => by
  obtain ⟨t, -, rfl⟩ := q
  cases t with
  | none => exact List.mem_cons_of_mem _ (List.mem_cons_of_mem _ (List.mem_cons_self ..))
  | some k => exact ⟨_, rfl⟩)
theorem So_wt (v y x t : Int32) : So ty_I [eNS, eIO, eIA, eIS, eUO] (sp_wt M v y x t) := by
  rintro o ⟨u, -, q⟩
  cases u with
  | none => rw [show o = .inr eNS from q]; simp
  | some k =>
    obtain ⟨c, -, q⟩ := q
    cases c with
    | none => rw [show o = .inr eIO from q]; simp
    | some c =>
      obtain ⟨t', -, q⟩ := q
      cases t' with
      | none => rw [show o = .inr eIA from q]; simp
      | some t' =>
        rcases q with ⟨-, rfl⟩ | ⟨-, ⟨-, rfl⟩ | ⟨-, rfl⟩⟩
        · simp
        · simp
        · exact ⟨_, rfl⟩
theorem So_bt (v y x : Int32) : So ty_I [eNS, eIO, eIS, eUO] (sp_bt M v y x) := by
  rintro o ⟨u, -, q⟩
  cases u with
  | none => rw [show o = .inr eNS from q]; simp
  | some k =>
    obtain ⟨c, -, q⟩ := q
    cases c with
    | none => rw [show o = .inr eIO from q]; simp
    | some c =>
      rcases q with ⟨-, rfl⟩ | ⟨-, ⟨-, rfl⟩ | ⟨-, rfl⟩⟩
      · simp
      · simp
      · exact ⟨_, rfl⟩
theorem So_lg : So ty_I [eNS] (sp_lg M) := by
  rintro o ⟨v, -, -, rfl⟩
  by_cases c : v = 0
  · rw [if_pos c]; exact List.mem_singleton.mpr rfl
  · rw [if_neg c]; exact ⟨_, rfl⟩
theorem So_jb : So ty_I [eAR] (sp_jb M) := by
  rintro o h
  unfold sp_jb at h
  subst h
  by_cases c : mm_pr M 1 + mm_pr M 2 = 0
  · rw [if_pos c]; exact List.mem_singleton.mpr rfl
  · rw [if_neg c]; exact ⟨_, rfl⟩
/-- the grid's mask of a colour -/
def sp_cm (M : mm_T) (v : Int32) (o : q_O) : Prop := (∃ v' : Nat, 97 ≤ v' ∧ v' ≤ 102 ∧ v = nI v' ∧ o = .inl (.long (mm_cm M v'))) ∨ ((∀ j : Nat, 97 ≤ j → j ≤ 102 → v ≠ nI j) ∧ o = .inr eIA)
theorem Fs_cm (v : Int32) : Fs (sp_cm M v) := by
  rintro o o' (⟨a, a1, a2, rfl, rfl⟩ | ⟨a, rfl⟩) (⟨b, b1, b2, e, rfl⟩ | ⟨b, rfl⟩)
  · rw [nI_in_u (N := 102) (by decide) a2 b2 e]
  · exact absurd rfl (b a a1 a2)
  · exact absurd e (a b b1 b2)
  · rfl
theorem So_cm (v : Int32) : So ty_L [eIA] (sp_cm M v) := by
  rintro o (⟨a, a1, a2, rfl, rfl⟩ | ⟨a, rfl⟩)
  · exact ⟨_, rfl⟩
  · exact List.mem_singleton.mpr rfl
end SO
section LW
variable {xs : List Int32} {n c b : Nat} {h : jx_H} {C : cl_T} {S : Nat → Nat} {th : Int32} {R : ro_R} {v5 x1 x2 x3 x4 x5 : Int32} {v6 v7 v8 : Value}
theorem c_98Q (K : mz_K xs h) (I : cl_I h C) : cl_Q h C (jx_A 98 [.ref 200] h) (sp_lg C.1) := by
  obtain ⟨v, h', a, l, e, I', t⟩ := c_98 K I
  refine ⟨_, h', ⟨v, a, l, rfl⟩, ?_, I', t⟩
  rw [e]
  by_cases z : v = 0
  · rw [if_pos z, if_pos z]; rfl
  · rw [if_neg z, if_neg z]; rfl
theorem c_100Q (K : mz_K xs h) (I : cl_I h C) : cl_Q h C (jx_A 100 [.ref 200] h) (sp_jb C.1) := by
  refine ⟨_, h, rfl, ?_, I, mz_eq_rf⟩
  rw [c_100 K I]
  by_cases z : mm_pr C.1 1 + mm_pr C.1 2 = 0
  · rw [if_pos z, if_pos z]; rfl
  · rw [if_neg z, if_neg z]; rfl
theorem c_81Q (I : cl_I h C) (v : Int32) : cl_Q h C (jx_A 81 [.ref 200, .int v] h) (sp_cm C.1 v) := by
  rcases c_81 I v with ⟨v', a, b, e, x⟩ | ⟨a, x⟩
  · exact ⟨_, h, Or.inl ⟨v', a, b, e, rfl⟩, x, I, mz_eq_rf⟩
  · exact ⟨_, h, Or.inr ⟨a, rfl⟩, x, I, mz_eq_rf⟩
theorem m_202Q {M : mm_T} {y : Nat} (I : ro_I h y S th R) (Q : ro_S S M) (v : Int32) : rd_Q h y S R (jx_A 202 [.ref y, .int v] h) (sp_cm M v) ce_1 (.long 0) := by
  rcases m_202 I Q v with ⟨v', a, b, e, h', x, J, t⟩ | ⟨a, h', x, J, t⟩
  · exact ⟨_, h', Or.inl ⟨v', a, b, e, rfl⟩, t, x, J⟩
  · exact ⟨_, h', Or.inr ⟨a, rfl⟩, t, x, J⟩
theorem lc_464 (L : lw_I xs n c h C S th R b) (Sc : lc_S xs v5 x1 x2 x3 x4 x5) : lc_P xs n c b v5 (jx_E 293 464 [.ref 199, .ref 200, .ref 711, .ref 719, .ref 720, .int v5, v6, v7, v8] [] h) := by
  obtain ⟨K, I, J, Q, O, H, N, -⟩ := id L
  obtain ⟨o, h1, so, x0, I1, t1⟩ := c_64 I x1
  have hc : co_P h C (jx_A 64 [.ref 200, .int x1] h) o := ⟨h1, x0, I1, t1⟩
  have hm := om_Q (S := S) (th := th) (R := R) (C := C) (mm := 166) (bs := [.ref 711, .int x1]) (Fs_tray (lw_n L) x1) so (fun h2 J2 => m_166 J2 Q O x1) Q H
  have sO := So_tray x1 o so
  obtain ⟨h3, S', R', k, v, t, X, L'⟩ := lw_ex (w := 257) (ws := [.ref 200, .int x1, .ref 719]) (cv := cv_I) (ty := ty_I) (F := fun k v h3 => jx_E 293 2851 [.ref 199, .ref 200, .ref 711, .ref 719, .ref 720, .int v5, .int k, v, v8] [] h3) (N := fun h3 => some (.inl (some (.int 0)), h3)) (X := jx_E 293 464 [.ref 199, .ref 200, .ref 711, .ref 719, .ref 720, .int v5, v6, v7, v8] [] h) L hc hm O (rl_N_w N (Nat.le_add_right b 13)) (fun v e => by subst e; exact sO) ⟨_, rfl⟩ (fun s e => by
    subst e
    have q : s = eIO := by simpa using sO
    rcases q with rfl
    · decide) (fun v h1 tv e => by
    obtain ⟨y, rfl⟩ := tv
    exact w_257_ok I e) (fun s h1 e x => by
    subst e
    have q : s = eIO := by simpa using sO
    rcases q with rfl
    · rw [show ce_1 eIO = 1 from by decide]; exact w_257_eIO I x) (fun k h2 v h3 t S' R' xw K2 J2 xm tv J3 => by
    obtain ⟨y, rfl⟩ := tv
    rw [b_293_464, Sc.1 h K, jx_cI_e xw, Sc.1 h2 K2, ro_is J2, jx_cI_e xm, ro_is J3, jx_cI_e (m_134 J3)] <;> rfl)
  exact ⟨h3, .int k, v, v8, C, S', t, R', X, L'⟩
theorem lc_545 (L : lw_I xs n c h C S th R b) (Sc : lc_S xs v5 x1 x2 x3 x4 x5) : lc_P xs n c b v5 (jx_E 293 545 [.ref 199, .ref 200, .ref 711, .ref 719, .ref 720, .int v5, v6, v7, v8] [] h) := by
  obtain ⟨K, I, J, Q, O, H, N, -⟩ := id L
  obtain ⟨o, h1, so, x0, I1, t1⟩ := c_66 I x1
  have hc : co_P h C (jx_A 66 [.ref 200, .int x1] h) o := ⟨h1, x0, I1, t1⟩
  have hm := om_Q (S := S) (th := th) (R := R) (C := C) (mm := 168) (bs := [.ref 711, .int x1]) (Fs_fd x1 _) so (fun h2 J2 => m_168 J2 Q O x1) Q H
  have sO := So_fd (ty := ty_I) x1 (fun _ => ⟨_, rfl⟩) o so
  obtain ⟨h3, S', R', k, v, t, X, L'⟩ := lw_ex (w := 258) (ws := [.ref 200, .int x1, .ref 719]) (cv := cv_I) (ty := ty_I) (F := fun k v h3 => jx_E 293 2851 [.ref 199, .ref 200, .ref 711, .ref 719, .ref 720, .int v5, .int k, v, v8] [] h3) (N := fun h3 => some (.inl (some (.int 0)), h3)) (X := jx_E 293 545 [.ref 199, .ref 200, .ref 711, .ref 719, .ref 720, .int v5, v6, v7, v8] [] h) L hc hm O (rl_N_w N (Nat.le_add_right b 13)) (fun v e => by subst e; exact sO) ⟨_, rfl⟩ (fun s e => by
    subst e
    have q : s = eNS := by simpa using sO
    rcases q with rfl
    · decide) (fun v h1 tv e => by
    obtain ⟨y, rfl⟩ := tv
    exact w_258_ok I e) (fun s h1 e x => by
    subst e
    have q : s = eNS := by simpa using sO
    rcases q with rfl
    · rw [show ce_1 eNS = 1 from by decide]; exact w_258_eNS I x) (fun k h2 v h3 t S' R' xw K2 J2 xm tv J3 => by
    obtain ⟨y, rfl⟩ := tv
    rw [b_293_545, Sc.1 h K, jx_cI_e xw, Sc.1 h2 K2, ro_is J2, jx_cI_e xm, ro_is J3, jx_cI_e (m_134 J3)] <;> rfl)
  exact ⟨h3, .int k, v, v8, C, S', t, R', X, L'⟩
theorem lc_601 (L : lw_I xs n c h C S th R b) (Sc : lc_S xs v5 x1 x2 x3 x4 x5) : lc_P xs n c b v5 (jx_E 293 601 [.ref 199, .ref 200, .ref 711, .ref 719, .ref 720, .int v5, v6, v7, v8] [] h) := by
  obtain ⟨K, I, J, Q, O, H, N, -⟩ := id L
  obtain ⟨o, h1, so, x0, I1, t1⟩ := c_67 I x1
  have hc : co_P h C (jx_A 67 [.ref 200, .int x1] h) o := ⟨h1, x0, I1, t1⟩
  have hm := om_Q (S := S) (th := th) (R := R) (C := C) (mm := 169) (bs := [.ref 711, .int x1]) (Fs_fd x1 _) so (fun h2 J2 => m_169 J2 Q O x1) Q H
  have sO := So_fd (ty := ty_I) x1 (fun _ => ⟨_, rfl⟩) o so
  obtain ⟨h3, S', R', k, v, t, X, L'⟩ := lw_ex (w := 259) (ws := [.ref 200, .int x1, .ref 719]) (cv := cv_I) (ty := ty_I) (F := fun k v h3 => jx_E 293 2851 [.ref 199, .ref 200, .ref 711, .ref 719, .ref 720, .int v5, .int k, v, v8] [] h3) (N := fun h3 => some (.inl (some (.int 0)), h3)) (X := jx_E 293 601 [.ref 199, .ref 200, .ref 711, .ref 719, .ref 720, .int v5, v6, v7, v8] [] h) L hc hm O (rl_N_w N (Nat.le_add_right b 13)) (fun v e => by subst e; exact sO) ⟨_, rfl⟩ (fun s e => by
    subst e
    have q : s = eNS := by simpa using sO
    rcases q with rfl
    · decide) (fun v h1 tv e => by
    obtain ⟨y, rfl⟩ := tv
    exact w_259_ok I e) (fun s h1 e x => by
    subst e
    have q : s = eNS := by simpa using sO
    rcases q with rfl
    · rw [show ce_1 eNS = 1 from by decide]; exact w_259_eNS I x) (fun k h2 v h3 t S' R' xw K2 J2 xm tv J3 => by
    obtain ⟨y, rfl⟩ := tv
    rw [b_293_601, Sc.1 h K, jx_cI_e xw, Sc.1 h2 K2, ro_is J2, jx_cI_e xm, ro_is J3, jx_cI_e (m_134 J3)] <;> rfl)
  exact ⟨h3, .int k, v, v8, C, S', t, R', X, L'⟩
theorem lc_657 (L : lw_I xs n c h C S th R b) (Sc : lc_S xs v5 x1 x2 x3 x4 x5) : lc_P xs n c b v5 (jx_E 293 657 [.ref 199, .ref 200, .ref 711, .ref 719, .ref 720, .int v5, v6, v7, v8] [] h) := by
  obtain ⟨K, I, J, Q, O, H, N, -⟩ := id L
  obtain ⟨o, h1, so, x0, I1, t1⟩ := c_68 I x1 x2
  have hc : co_P h C (jx_A 68 [.ref 200, .int x1, .int x2] h) o := ⟨h1, x0, I1, t1⟩
  have hm := om_Q (S := S) (th := th) (R := R) (C := C) (mm := 170) (bs := [.ref 711, .int x1, .int x2]) (Fs_edge x1 x2) so (fun h2 J2 => m_170 J2 Q O x1 x2) Q H
  have sO := So_edge x1 x2 o so
  obtain ⟨h3, S', R', k, v, t, X, L'⟩ := lw_ex (w := 260) (ws := [.ref 200, .int x1, .int x2, .ref 719]) (cv := cv_I) (ty := ty_I) (F := fun k v h3 => jx_E 293 2851 [.ref 199, .ref 200, .ref 711, .ref 719, .ref 720, .int v5, .int k, v, v8] [] h3) (N := fun h3 => some (.inl (some (.int 0)), h3)) (X := jx_E 293 657 [.ref 199, .ref 200, .ref 711, .ref 719, .ref 720, .int v5, v6, v7, v8] [] h) L hc hm O (rl_N_w N (Nat.le_add_right b 13)) (fun v e => by subst e; exact sO) ⟨_, rfl⟩ (fun s e => by
    subst e
    have q : s = eNS ∨ s = eIA := by simpa using sO
    rcases q with rfl | rfl
    · decide
    · decide) (fun v h1 tv e => by
    obtain ⟨y, rfl⟩ := tv
    exact w_260_ok I e) (fun s h1 e x => by
    subst e
    have q : s = eNS ∨ s = eIA := by simpa using sO
    rcases q with rfl | rfl
    · rw [show ce_NA eNS = 1 from by decide]; exact w_260_eNS I x
    · rw [show ce_NA eIA = 2 from by decide]; exact w_260_eIA I x) (fun k h2 v h3 t S' R' xw K2 J2 xm tv J3 => by
    obtain ⟨y, rfl⟩ := tv
    rw [b_293_657, Sc.1 h K, Sc.2.1 h K, jx_cI_e xw, Sc.1 h2 K2, Sc.2.1 h2 K2, ro_is J2, jx_cI_e xm, ro_is J3, jx_cI_e (m_134 J3)] <;> rfl)
  exact ⟨h3, .int k, v, v8, C, S', t, R', X, L'⟩
theorem lc_725 (L : lw_I xs n c h C S th R b) (Sc : lc_S xs v5 x1 x2 x3 x4 x5) : lc_P xs n c b v5 (jx_E 293 725 [.ref 199, .ref 200, .ref 711, .ref 719, .ref 720, .int v5, v6, v7, v8] [] h) := by
  obtain ⟨K, I, J, Q, O, H, N, -⟩ := id L
  obtain ⟨o, h1, so, x0, I1, t1⟩ := c_69 I x1
  have hc : co_P h C (jx_A 69 [.ref 200, .int x1] h) o := ⟨h1, x0, I1, t1⟩
  have hm := om_Q (S := S) (th := th) (R := R) (C := C) (mm := 171) (bs := [.ref 711, .int x1]) (Fs_fd x1 _) so (fun h2 J2 => m_171 J2 Q O x1) Q H
  have sO := So_fd (ty := ty_I) x1 (fun _ => ⟨_, rfl⟩) o so
  obtain ⟨h3, S', R', k, v, t, X, L'⟩ := lw_ex (w := 261) (ws := [.ref 200, .int x1, .ref 719]) (cv := cv_B) (ty := ty_I) (F := fun k v h3 => jx_E 293 2851 [.ref 199, .ref 200, .ref 711, .ref 719, .ref 720, .int v5, .int k, v, v8] [] h3) (N := fun h3 => some (.inl (some (.int 0)), h3)) (X := jx_E 293 725 [.ref 199, .ref 200, .ref 711, .ref 719, .ref 720, .int v5, v6, v7, v8] [] h) L hc hm O (rl_N_w N (Nat.le_add_right b 13)) (fun v e => by subst e; exact sO) ⟨_, rfl⟩ (fun s e => by
    subst e
    have q : s = eNS := by simpa using sO
    rcases q with rfl
    · decide) (fun v h1 tv e => by
    obtain ⟨y, rfl⟩ := tv
    exact w_261_ok I e) (fun s h1 e x => by
    subst e
    have q : s = eNS := by simpa using sO
    rcases q with rfl
    · rw [show ce_1 eNS = 1 from by decide]; exact w_261_eNS I x) (fun k h2 v h3 t S' R' xw K2 J2 xm tv J3 => by
    obtain ⟨y, rfl⟩ := tv
    rw [b_293_725, Sc.1 h K, jx_cI_e xw, Sc.1 h2 K2, ro_is J2, jx_cI_e xm, ro_is J3, jx_cI_e (m_134 J3)]
    by_cases c0 : y = 0
    · simp only [if_pos c0, show cv_B (.int y) = 0 from if_pos c0]
    · simp only [if_neg c0, show cv_B (.int y) = 1 from if_neg c0])
  exact ⟨h3, .int k, v, v8, C, S', t, R', X, L'⟩
theorem lc_788 (L : lw_I xs n c h C S th R b) (Sc : lc_S xs v5 x1 x2 x3 x4 x5) : lc_P xs n c b v5 (jx_E 293 788 [.ref 199, .ref 200, .ref 711, .ref 719, .ref 720, .int v5, v6, v7, v8] [] h) := by
  obtain ⟨K, I, J, Q, O, H, N, -⟩ := id L
  obtain ⟨o, h1, so, x0, I1, t1⟩ := c_70 I x1
  have hc : co_P h C (jx_A 70 [.ref 200, .int x1] h) o := ⟨h1, x0, I1, t1⟩
  have hm := om_Q (S := S) (th := th) (R := R) (C := C) (mm := 172) (bs := [.ref 711, .int x1]) (Fs_gd x1 _) so (fun h2 J2 => m_172 J2 Q O x1) Q H
  have sO := So_gd (ty := ty_I) x1 (fun _ _ => ⟨_, rfl⟩) o so
  obtain ⟨h3, S', R', k, v, t, X, L'⟩ := lw_ex (w := 262) (ws := [.ref 200, .int x1, .ref 719]) (cv := cv_I) (ty := ty_I) (F := fun k v h3 => jx_E 293 2851 [.ref 199, .ref 200, .ref 711, .ref 719, .ref 720, .int v5, .int k, v, v8] [] h3) (N := fun h3 => some (.inl (some (.int 0)), h3)) (X := jx_E 293 788 [.ref 199, .ref 200, .ref 711, .ref 719, .ref 720, .int v5, v6, v7, v8] [] h) L hc hm O (rl_N_w N (Nat.le_add_right b 13)) (fun v e => by subst e; exact sO) ⟨_, rfl⟩ (fun s e => by
    subst e
    have q : s = eNS := by simpa using sO
    rcases q with rfl
    · decide) (fun v h1 tv e => by
    obtain ⟨y, rfl⟩ := tv
    exact w_262_ok I e) (fun s h1 e x => by
    subst e
    have q : s = eNS := by simpa using sO
    rcases q with rfl
    · rw [show ce_1 eNS = 1 from by decide]; exact w_262_eNS I x) (fun k h2 v h3 t S' R' xw K2 J2 xm tv J3 => by
    obtain ⟨y, rfl⟩ := tv
    rw [b_293_788, Sc.1 h K, jx_cI_e xw, Sc.1 h2 K2, ro_is J2, jx_cI_e xm, ro_is J3, jx_cI_e (m_134 J3)] <;> rfl)
  exact ⟨h3, .int k, v, v8, C, S', t, R', X, L'⟩
theorem lc_1210 (L : lw_I xs n c h C S th R b) (Sc : lc_S xs v5 x1 x2 x3 x4 x5) : lc_P xs n c b v5 (jx_E 293 1210 [.ref 199, .ref 200, .ref 711, .ref 719, .ref 720, .int v5, v6, v7, v8] [] h) := by
  obtain ⟨K, I, J, Q, O, H, N, -⟩ := id L
  obtain ⟨o, h1, so, x0, I1, t1⟩ := c_78 I x1 x2
  have hc : co_P h C (jx_A 78 [.ref 200, .int x1, .int x2] h) o := ⟨h1, x0, I1, t1⟩
  have hm := om_Q (S := S) (th := th) (R := R) (C := C) (mm := 199) (bs := [.ref 711, .int x1, .int x2]) (Fs_emp x1 x2) so (fun h2 J2 => m_199 J2 Q x1 x2) Q H
  have sO := So_emp x1 x2 o so
  obtain ⟨h3, S', R', k, v, t, X, L'⟩ := lw_ex (w := 268) (ws := [.ref 200, .int x1, .int x2, .ref 719]) (cv := cv_B) (ty := ty_I) (F := fun k v h3 => jx_E 293 2851 [.ref 199, .ref 200, .ref 711, .ref 719, .ref 720, .int v5, .int k, v, v8] [] h3) (N := fun h3 => some (.inl (some (.int 0)), h3)) (X := jx_E 293 1210 [.ref 199, .ref 200, .ref 711, .ref 719, .ref 720, .int v5, v6, v7, v8] [] h) L hc hm O (rl_N_w N (Nat.le_add_right b 13)) (fun v e => by subst e; exact sO) ⟨_, rfl⟩ (fun s e => by
    subst e
    have q : s = eIO := by simpa using sO
    rcases q with rfl
    · decide) (fun v h1 tv e => by
    obtain ⟨y, rfl⟩ := tv
    exact w_268_ok I e) (fun s h1 e x => by
    subst e
    have q : s = eIO := by simpa using sO
    rcases q with rfl
    · rw [show ce_1 eIO = 1 from by decide]; exact w_268_eIO I x) (fun k h2 v h3 t S' R' xw K2 J2 xm tv J3 => by
    obtain ⟨y, rfl⟩ := tv
    rw [b_293_1210, Sc.1 h K, Sc.2.1 h K, jx_cI_e xw, Sc.1 h2 K2, Sc.2.1 h2 K2, ro_is J2, jx_cI_e xm, ro_is J3, jx_cI_e (m_134 J3)]
    by_cases c0 : y = 0
    · simp only [if_pos c0, show cv_B (.int y) = 0 from if_pos c0]
    · simp only [if_neg c0, show cv_B (.int y) = 1 from if_neg c0])
  exact ⟨h3, .int k, v, v8, C, S', t, R', X, L'⟩
theorem lc_1285 (L : lw_I xs n c h C S th R b) (Sc : lc_S xs v5 x1 x2 x3 x4 x5) : lc_P xs n c b v5 (jx_E 293 1285 [.ref 199, .ref 200, .ref 711, .ref 719, .ref 720, .int v5, v6, v7, v8] [] h) := by
  obtain ⟨K, I, J, Q, O, H, N, -⟩ := id L
  obtain ⟨o, h1, so, x0, I1, t1⟩ := c_79 I x1 x2
  have hc : co_P h C (jx_A 79 [.ref 200, .int x1, .int x2] h) o := ⟨h1, x0, I1, t1⟩
  have hm := om_Q (S := S) (th := th) (R := R) (C := C) (mm := 200) (bs := [.ref 711, .int x1, .int x2]) (Fs_fat x1 x2) so (fun h2 J2 => m_200 J2 Q x1 x2) Q H
  have sO := So_fat x1 x2 o so
  obtain ⟨h3, S', R', k, v, t, X, L'⟩ := lw_ex (w := 269) (ws := [.ref 200, .int x1, .int x2, .ref 719]) (cv := cv_I) (ty := ty_I) (F := fun k v h3 => jx_E 293 2851 [.ref 199, .ref 200, .ref 711, .ref 719, .ref 720, .int v5, .int k, v, v8] [] h3) (N := fun h3 => some (.inl (some (.int 0)), h3)) (X := jx_E 293 1285 [.ref 199, .ref 200, .ref 711, .ref 719, .ref 720, .int v5, v6, v7, v8] [] h) L hc hm O (rl_N_w N (Nat.le_add_right b 13)) (fun v e => by subst e; exact sO) ⟨_, rfl⟩ (fun s e => by
    subst e
    have q : s = eIO ∨ s = eNS := by simpa using sO
    rcases q with rfl | rfl
    · decide
    · decide) (fun v h1 tv e => by
    obtain ⟨y, rfl⟩ := tv
    exact w_269_ok I e) (fun s h1 e x => by
    subst e
    have q : s = eIO ∨ s = eNS := by simpa using sO
    rcases q with rfl | rfl
    · rw [show ce_IN eIO = 1 from by decide]; exact w_269_eIO I x
    · rw [show ce_IN eNS = 2 from by decide]; exact w_269_eNS I x) (fun k h2 v h3 t S' R' xw K2 J2 xm tv J3 => by
    obtain ⟨y, rfl⟩ := tv
    rw [b_293_1285, Sc.1 h K, Sc.2.1 h K, jx_cI_e xw, Sc.1 h2 K2, Sc.2.1 h2 K2, ro_is J2, jx_cI_e xm, ro_is J3, jx_cI_e (m_134 J3)] <;> rfl)
  exact ⟨h3, .int k, v, v8, C, S', t, R', X, L'⟩
theorem lc_1491 (L : lw_I xs n c h C S th R b) (Sc : lc_S xs v5 x1 x2 x3 x4 x5) : lc_P xs n c b v5 (jx_E 293 1491 [.ref 199, .ref 200, .ref 711, .ref 719, .ref 720, .int v5, v6, v7, v8] [] h) := by
  obtain ⟨K, I, J, Q, O, H, N, -⟩ := id L
  obtain ⟨o, h1, so, x0, I1, t1⟩ := c_87 K I x1 x2
  have hc : co_P h C (jx_A 87 [.ref 200, .int x1, .int x2] h) o := ⟨h1, x0, I1, t1⟩
  have hm := om_Q (S := S) (th := th) (R := R) (C := C) (mm := 208) (bs := [.ref 711, .int x1, .int x2]) (Fs_fits x1 x2) so (fun h2 J2 => m_208 J2 Q O x1 x2) Q H
  have sO := So_fits x1 x2 o so
  obtain ⟨h3, S', R', k, v, t, X, L'⟩ := lw_ex (w := 271) (ws := [.ref 200, .int x1, .int x2, .ref 719]) (cv := cv_B) (ty := ty_I) (F := fun k v h3 => jx_E 293 2851 [.ref 199, .ref 200, .ref 711, .ref 719, .ref 720, .int v5, .int k, v, v8] [] h3) (N := fun h3 => some (.inl (some (.int 0)), h3)) (X := jx_E 293 1491 [.ref 199, .ref 200, .ref 711, .ref 719, .ref 720, .int v5, v6, v7, v8] [] h) L hc hm O (rl_N_w N (Nat.le_add_right b 13)) (fun v e => by subst e; exact sO) ⟨_, rfl⟩ (fun s e => by
    subst e
    have q : s = eNS ∨ s = eIA := by simpa using sO
    rcases q with rfl | rfl
    · decide
    · decide) (fun v h1 tv e => by
    obtain ⟨y, rfl⟩ := tv
    exact w_271_ok I e) (fun s h1 e x => by
    subst e
    have q : s = eNS ∨ s = eIA := by simpa using sO
    rcases q with rfl | rfl
    · rw [show ce_NA eNS = 1 from by decide]; exact w_271_eNS I x
    · rw [show ce_NA eIA = 2 from by decide]; exact w_271_eIA I x) (fun k h2 v h3 t S' R' xw K2 J2 xm tv J3 => by
    obtain ⟨y, rfl⟩ := tv
    rw [b_293_1491, Sc.1 h K, Sc.2.1 h K, jx_cI_e xw, Sc.1 h2 K2, Sc.2.1 h2 K2, ro_is J2, jx_cI_e xm, ro_is J3, jx_cI_e (m_134 J3)]
    by_cases c0 : y = 0
    · simp only [if_pos c0, show cv_B (.int y) = 0 from if_pos c0]
    · simp only [if_neg c0, show cv_B (.int y) = 1 from if_neg c0])
  exact ⟨h3, .int k, v, v8, C, S', t, R', X, L'⟩
theorem lc_1566 (L : lw_I xs n c h C S th R b) (Sc : lc_S xs v5 x1 x2 x3 x4 x5) : lc_P xs n c b v5 (jx_E 293 1566 [.ref 199, .ref 200, .ref 711, .ref 719, .ref 720, .int v5, v6, v7, v8] [] h) := by
  obtain ⟨K, I, J, Q, O, H, N, -⟩ := id L
  obtain ⟨o, h1, so, x0, I1, t1⟩ := c_88 K I x1
  have hc : co_P h C (jx_A 88 [.ref 200, .int x1] h) o := ⟨h1, x0, I1, t1⟩
  have hm := om_Q (S := S) (th := th) (R := R) (C := C) (mm := 209) (bs := [.ref 711, .int x1]) (Fs_gd x1 _) so (fun h2 J2 => m_209 J2 Q O x1) Q H
  have sO := So_gd (ty := ty_I) x1 (fun _ _ => ⟨_, rfl⟩) o so
  obtain ⟨h3, S', R', k, v, t, X, L'⟩ := lw_ex (w := 272) (ws := [.ref 200, .int x1, .ref 719]) (cv := cv_I) (ty := ty_I) (F := fun k v h3 => jx_E 293 2851 [.ref 199, .ref 200, .ref 711, .ref 719, .ref 720, .int v5, .int k, v, v8] [] h3) (N := fun h3 => some (.inl (some (.int 0)), h3)) (X := jx_E 293 1566 [.ref 199, .ref 200, .ref 711, .ref 719, .ref 720, .int v5, v6, v7, v8] [] h) L hc hm O (rl_N_w N (Nat.le_add_right b 13)) (fun v e => by subst e; exact sO) ⟨_, rfl⟩ (fun s e => by
    subst e
    have q : s = eNS := by simpa using sO
    rcases q with rfl
    · decide) (fun v h1 tv e => by
    obtain ⟨y, rfl⟩ := tv
    exact w_272_ok I e) (fun s h1 e x => by
    subst e
    have q : s = eNS := by simpa using sO
    rcases q with rfl
    · rw [show ce_1 eNS = 1 from by decide]; exact w_272_eNS I x) (fun k h2 v h3 t S' R' xw K2 J2 xm tv J3 => by
    obtain ⟨y, rfl⟩ := tv
    rw [b_293_1566, Sc.1 h K, jx_cI_e xw, Sc.1 h2 K2, ro_is J2, jx_cI_e xm, ro_is J3, jx_cI_e (m_134 J3)] <;> rfl)
  exact ⟨h3, .int k, v, v8, C, S', t, R', X, L'⟩
theorem lc_1622 (L : lw_I xs n c h C S th R b) (Sc : lc_S xs v5 x1 x2 x3 x4 x5) : lc_P xs n c b v5 (jx_E 293 1622 [.ref 199, .ref 200, .ref 711, .ref 719, .ref 720, .int v5, v6, v7, v8] [] h) := by
  obtain ⟨K, I, J, Q, O, H, N, -⟩ := id L
  obtain ⟨o, h1, so, x0, I1, t1⟩ := c_89 K I x1 x2
  have hc : co_P h C (jx_A 89 [.ref 200, .int x1, .int x2] h) o := ⟨h1, x0, I1, t1⟩
  have hm := om_Q (S := S) (th := th) (R := R) (C := C) (mm := 210) (bs := [.ref 711, .int x1, .int x2]) (Fs_outl x1 x2) so (fun h2 J2 => m_210 J2 Q x1 x2) Q H
  have sO := So_outl x1 x2 o so
  obtain ⟨h3, S', R', k, v, t, X, L'⟩ := lw_ex (w := 273) (ws := [.ref 200, .int x1, .int x2, .ref 719]) (cv := cv_I) (ty := ty_I) (F := fun k v h3 => jx_E 293 2851 [.ref 199, .ref 200, .ref 711, .ref 719, .ref 720, .int v5, .int k, v, v8] [] h3) (N := fun h3 => some (.inl (some (.int 0)), h3)) (X := jx_E 293 1622 [.ref 199, .ref 200, .ref 711, .ref 719, .ref 720, .int v5, v6, v7, v8] [] h) L hc hm O (rl_N_w N (Nat.le_add_right b 13)) (fun v e => by subst e; exact sO) ⟨_, rfl⟩ (fun s e => by
    subst e
    have q : s = eIO ∨ s = eUO := by simpa using sO
    rcases q with rfl | rfl
    · decide
    · decide) (fun v h1 tv e => by
    obtain ⟨y, rfl⟩ := tv
    exact w_273_ok I e) (fun s h1 e x => by
    subst e
    have q : s = eIO ∨ s = eUO := by simpa using sO
    rcases q with rfl | rfl
    · rw [show ce_gap eIO = 1 from by decide]; exact w_273_eIO I x
    · rw [show ce_gap eUO = 2 from by decide]; exact w_273_eUO I x) (fun k h2 v h3 t S' R' xw K2 J2 xm tv J3 => by
    obtain ⟨y, rfl⟩ := tv
    rw [b_293_1622, Sc.1 h K, Sc.2.1 h K, jx_cI_e xw, Sc.1 h2 K2, Sc.2.1 h2 K2, ro_is J2, jx_cI_e xm, ro_is J3, jx_cI_e (m_134 J3)] <;> rfl)
  exact ⟨h3, .int k, v, v8, C, S', t, R', X, L'⟩
theorem lc_1690 (L : lw_I xs n c h C S th R b) (Sc : lc_S xs v5 x1 x2 x3 x4 x5) : lc_P xs n c b v5 (jx_E 293 1690 [.ref 199, .ref 200, .ref 711, .ref 719, .ref 720, .int v5, v6, v7, v8] [] h) := by
  obtain ⟨K, I, J, Q, O, H, N, -⟩ := id L
  obtain ⟨o, h1, so, x0, I1, t1⟩ := c_90 K I x1 x2 x3 x4
  have hc : co_P h C (jx_A 90 [.ref 200, .int x1, .int x2, .int x3, .int x4] h) o := ⟨h1, x0, I1, t1⟩
  have hm := om_Q (S := S) (th := th) (R := R) (C := C) (mm := 195) (bs := [.ref 711, .int x1, .int x2, .int x3, .int x4]) (Fs_wt x1 x2 x3 x4) so (fun h2 J2 => m_195 J2 Q O x1 x2 x3 x4) Q H
  have sO := So_wt x1 x2 x3 x4 o so
  obtain ⟨h3, S', R', k, v, t, X, L'⟩ := lw_ex (w := 274) (ws := [.ref 200, .int x1, .int x2, .int x3, .int x4, .ref 719]) (cv := cv_I) (ty := ty_I) (F := fun k v h3 => jx_E 293 2851 [.ref 199, .ref 200, .ref 711, .ref 719, .ref 720, .int v5, .int k, v, v8] [] h3) (N := fun h3 => some (.inl (some (.int 0)), h3)) (X := jx_E 293 1690 [.ref 199, .ref 200, .ref 711, .ref 719, .ref 720, .int v5, v6, v7, v8] [] h) L hc hm O (rl_N_w N (Nat.le_add_right b 13)) (fun v e => by subst e; exact sO) ⟨_, rfl⟩ (fun s e => by
    subst e
    have q : s = eNS ∨ s = eIO ∨ s = eIA ∨ s = eIS ∨ s = eUO := by simpa using sO
    rcases q with rfl | rfl | rfl | rfl | rfl
    · decide
    · decide
    · decide
    · decide
    · decide) (fun v h1 tv e => by
    obtain ⟨y, rfl⟩ := tv
    exact w_274_ok I e) (fun s h1 e x => by
    subst e
    have q : s = eNS ∨ s = eIO ∨ s = eIA ∨ s = eIS ∨ s = eUO := by simpa using sO
    rcases q with rfl | rfl | rfl | rfl | rfl
    · rw [show ce_wt eNS = 1 from by decide]; exact w_274_eNS I x
    · rw [show ce_wt eIO = 2 from by decide]; exact w_274_eIO I x
    · rw [show ce_wt eIA = 3 from by decide]; exact w_274_eIA I x
    · rw [show ce_wt eIS = 4 from by decide]; exact w_274_eIS I x
    · rw [show ce_wt eUO = 5 from by decide]; exact w_274_eUO I x) (fun k h2 v h3 t S' R' xw K2 J2 xm tv J3 => by
    obtain ⟨y, rfl⟩ := tv
    rw [b_293_1690, Sc.1 h K, Sc.2.1 h K, Sc.2.2.1 h K, Sc.2.2.2.1 h K, jx_cI_e xw, Sc.1 h2 K2, Sc.2.1 h2 K2, Sc.2.2.1 h2 K2, Sc.2.2.2.1 h2 K2, ro_is J2, jx_cI_e xm, ro_is J3, jx_cI_e (m_134 J3)] <;> rfl)
  exact ⟨h3, .int k, v, v8, C, S', t, R', X, L'⟩
theorem lc_1782 (L : lw_I xs n c h C S th R b) (Sc : lc_S xs v5 x1 x2 x3 x4 x5) : lc_P xs n c b v5 (jx_E 293 1782 [.ref 199, .ref 200, .ref 711, .ref 719, .ref 720, .int v5, v6, v7, v8] [] h) := by
  obtain ⟨K, I, J, Q, O, H, N, -⟩ := id L
  obtain ⟨o, h1, so, x0, I1, t1⟩ := c_91 K I x1 x2 x3
  have hc : co_P h C (jx_A 91 [.ref 200, .int x1, .int x2, .int x3] h) o := ⟨h1, x0, I1, t1⟩
  have hm := om_Q (S := S) (th := th) (R := R) (C := C) (mm := 196) (bs := [.ref 711, .int x1, .int x2, .int x3]) (Fs_bt x1 x2 x3) so (fun h2 J2 => m_196 J2 Q O x1 x2 x3) Q H
  have sO := So_bt x1 x2 x3 o so
  obtain ⟨h3, S', R', k, v, t, X, L'⟩ := lw_ex (w := 275) (ws := [.ref 200, .int x1, .int x2, .int x3, .ref 719]) (cv := cv_I) (ty := ty_I) (F := fun k v h3 => jx_E 293 2851 [.ref 199, .ref 200, .ref 711, .ref 719, .ref 720, .int v5, .int k, v, v8] [] h3) (N := fun h3 => some (.inl (some (.int 0)), h3)) (X := jx_E 293 1782 [.ref 199, .ref 200, .ref 711, .ref 719, .ref 720, .int v5, v6, v7, v8] [] h) L hc hm O (rl_N_w N (Nat.le_add_right b 13)) (fun v e => by subst e; exact sO) ⟨_, rfl⟩ (fun s e => by
    subst e
    have q : s = eNS ∨ s = eIO ∨ s = eIS ∨ s = eUO := by simpa using sO
    rcases q with rfl | rfl | rfl | rfl
    · decide
    · decide
    · decide
    · decide) (fun v h1 tv e => by
    obtain ⟨y, rfl⟩ := tv
    exact w_275_ok I e) (fun s h1 e x => by
    subst e
    have q : s = eNS ∨ s = eIO ∨ s = eIS ∨ s = eUO := by simpa using sO
    rcases q with rfl | rfl | rfl | rfl
    · rw [show ce_bt eNS = 1 from by decide]; exact w_275_eNS I x
    · rw [show ce_bt eIO = 2 from by decide]; exact w_275_eIO I x
    · rw [show ce_bt eIS = 3 from by decide]; exact w_275_eIS I x
    · rw [show ce_bt eUO = 4 from by decide]; exact w_275_eUO I x) (fun k h2 v h3 t S' R' xw K2 J2 xm tv J3 => by
    obtain ⟨y, rfl⟩ := tv
    rw [b_293_1782, Sc.1 h K, Sc.2.1 h K, Sc.2.2.1 h K, jx_cI_e xw, Sc.1 h2 K2, Sc.2.1 h2 K2, Sc.2.2.1 h2 K2, ro_is J2, jx_cI_e xm, ro_is J3, jx_cI_e (m_134 J3)] <;> rfl)
  exact ⟨h3, .int k, v, v8, C, S', t, R', X, L'⟩
theorem lc_1862 (L : lw_I xs n c h C S th R b) (Sc : lc_S xs v5 x1 x2 x3 x4 x5) : lc_P xs n c b v5 (jx_E 293 1862 [.ref 199, .ref 200, .ref 711, .ref 719, .ref 720, .int v5, v6, v7, v8] [] h) := by
  obtain ⟨K, I, J, Q, O, H, N, -⟩ := id L
  obtain ⟨o, h1, so, x0, I1, t1⟩ := c_92 K I x1 x2
  have hc : co_P h C (jx_A 92 [.ref 200, .int x1, .int x2] h) o := ⟨h1, x0, I1, t1⟩
  have hm := om_Q (S := S) (th := th) (R := R) (C := C) (mm := 197) (bs := [.ref 711, .int x1, .int x2]) (Fs_rank (lw_n L) x1 x2 0) so (fun h2 J2 => m_197 J2 Q O x1 x2) Q H
  have sO := So_rank x1 x2 0 o so
  obtain ⟨h3, S', R', k, v, t, X, L'⟩ := lw_ex (w := 276) (ws := [.ref 200, .int x1, .int x2, .ref 719]) (cv := cv_I) (ty := ty_I) (F := fun k v h3 => jx_E 293 2851 [.ref 199, .ref 200, .ref 711, .ref 719, .ref 720, .int v5, .int k, v, v8] [] h3) (N := fun h3 => some (.inl (some (.int 0)), h3)) (X := jx_E 293 1862 [.ref 199, .ref 200, .ref 711, .ref 719, .ref 720, .int v5, v6, v7, v8] [] h) L hc hm O (rl_N_w N (Nat.le_add_right b 13)) (fun v e => by subst e; exact sO) ⟨_, rfl⟩ (fun s e => by
    subst e
    have q : s = eIO ∨ s = eUO ∨ s = eNS := by simpa using sO
    rcases q with rfl | rfl | rfl
    · decide
    · decide
    · decide) (fun v h1 tv e => by
    obtain ⟨y, rfl⟩ := tv
    exact w_276_ok I e) (fun s h1 e x => by
    subst e
    have q : s = eIO ∨ s = eUO ∨ s = eNS := by simpa using sO
    rcases q with rfl | rfl | rfl
    · rw [show ce_gs eIO = 1 from by decide]; exact w_276_eIO I x
    · rw [show ce_gs eUO = 2 from by decide]; exact w_276_eUO I x
    · rw [show ce_gs eNS = 3 from by decide]; exact w_276_eNS I x) (fun k h2 v h3 t S' R' xw K2 J2 xm tv J3 => by
    obtain ⟨y, rfl⟩ := tv
    rw [b_293_1862, Sc.1 h K, Sc.2.1 h K, jx_cI_e xw, Sc.1 h2 K2, Sc.2.1 h2 K2, ro_is J2, jx_cI_e xm, ro_is J3, jx_cI_e (m_134 J3)] <;> rfl)
  exact ⟨h3, .int k, v, v8, C, S', t, R', X, L'⟩
theorem lc_1930 (L : lw_I xs n c h C S th R b) (Sc : lc_S xs v5 x1 x2 x3 x4 x5) : lc_P xs n c b v5 (jx_E 293 1930 [.ref 199, .ref 200, .ref 711, .ref 719, .ref 720, .int v5, v6, v7, v8] [] h) := by
  obtain ⟨K, I, J, Q, O, H, N, -⟩ := id L
  obtain ⟨o, h1, so, x0, I1, t1⟩ := c_93 K I x1 x2 x3
  have hc : co_P h C (jx_A 93 [.ref 200, .int x1, .int x2, .int x3] h) o := ⟨h1, x0, I1, t1⟩
  have hm := om_Q (S := S) (th := th) (R := R) (C := C) (mm := 198) (bs := [.ref 711, .int x1, .int x2, .int x3]) (Fs_rank (lw_n L) x1 x2 x3) so (fun h2 J2 => m_198 J2 Q O x1 x2 x3) Q H
  have sO := So_rank x1 x2 x3 o so
  obtain ⟨h3, S', R', k, v, t, X, L'⟩ := lw_ex (w := 277) (ws := [.ref 200, .int x1, .int x2, .int x3, .ref 719]) (cv := cv_I) (ty := ty_I) (F := fun k v h3 => jx_E 293 2851 [.ref 199, .ref 200, .ref 711, .ref 719, .ref 720, .int v5, .int k, v, v8] [] h3) (N := fun h3 => some (.inl (some (.int 0)), h3)) (X := jx_E 293 1930 [.ref 199, .ref 200, .ref 711, .ref 719, .ref 720, .int v5, v6, v7, v8] [] h) L hc hm O (rl_N_w N (Nat.le_add_right b 13)) (fun v e => by subst e; exact sO) ⟨_, rfl⟩ (fun s e => by
    subst e
    have q : s = eIO ∨ s = eUO ∨ s = eNS := by simpa using sO
    rcases q with rfl | rfl | rfl
    · decide
    · decide
    · decide) (fun v h1 tv e => by
    obtain ⟨y, rfl⟩ := tv
    exact w_277_ok I e) (fun s h1 e x => by
    subst e
    have q : s = eIO ∨ s = eUO ∨ s = eNS := by simpa using sO
    rcases q with rfl | rfl | rfl
    · rw [show ce_gs eIO = 1 from by decide]; exact w_277_eIO I x
    · rw [show ce_gs eUO = 2 from by decide]; exact w_277_eUO I x
    · rw [show ce_gs eNS = 3 from by decide]; exact w_277_eNS I x) (fun k h2 v h3 t S' R' xw K2 J2 xm tv J3 => by
    obtain ⟨y, rfl⟩ := tv
    rw [b_293_1930, Sc.1 h K, Sc.2.1 h K, Sc.2.2.1 h K, jx_cI_e xw, Sc.1 h2 K2, Sc.2.1 h2 K2, Sc.2.2.1 h2 K2, ro_is J2, jx_cI_e xm, ro_is J3, jx_cI_e (m_134 J3)] <;> rfl)
  exact ⟨h3, .int k, v, v8, C, S', t, R', X, L'⟩
theorem lc_2036 (L : lw_I xs n c h C S th R b) (Sc : lc_S xs v5 x1 x2 x3 x4 x5) : lc_P xs n c b v5 (jx_E 293 2036 [.ref 199, .ref 200, .ref 711, .ref 719, .ref 720, .int v5, v6, v7, v8] [] h) := by
  obtain ⟨K, I, J, Q, O, H, N, -⟩ := id L
  obtain ⟨o, h1, so, x0, I1, t1⟩ := c_96 K I x1
  have hc : co_P h C (jx_A 96 [.ref 200, .int x1] h) o := ⟨h1, x0, I1, t1⟩
  have hm := om_Q (S := S) (th := th) (R := R) (C := C) (mm := 215) (bs := [.ref 711, .int x1]) (Fs_gd x1 _) so (fun h2 J2 => m_215 J2 Q O x1) Q H
  have sO := So_gd (ty := ty_I) x1 (fun _ _ => ⟨_, rfl⟩) o so
  obtain ⟨h3, S', R', k, v, t, X, L'⟩ := lw_ex (w := 278) (ws := [.ref 200, .int x1, .ref 719]) (cv := cv_I) (ty := ty_I) (F := fun k v h3 => jx_E 293 2851 [.ref 199, .ref 200, .ref 711, .ref 719, .ref 720, .int v5, .int k, v, v8] [] h3) (N := fun h3 => some (.inl (some (.int 0)), h3)) (X := jx_E 293 2036 [.ref 199, .ref 200, .ref 711, .ref 719, .ref 720, .int v5, v6, v7, v8] [] h) L hc hm O (rl_N_w N (Nat.le_add_right b 13)) (fun v e => by subst e; exact sO) ⟨_, rfl⟩ (fun s e => by
    subst e
    have q : s = eNS := by simpa using sO
    rcases q with rfl
    · decide) (fun v h1 tv e => by
    obtain ⟨y, rfl⟩ := tv
    exact w_278_ok I e) (fun s h1 e x => by
    subst e
    have q : s = eNS := by simpa using sO
    rcases q with rfl
    · rw [show ce_1 eNS = 1 from by decide]; exact w_278_eNS I x) (fun k h2 v h3 t S' R' xw K2 J2 xm tv J3 => by
    obtain ⟨y, rfl⟩ := tv
    rw [b_293_2036, Sc.1 h K, jx_cI_e xw, Sc.1 h2 K2, ro_is J2, jx_cI_e xm, ro_is J3, jx_cI_e (m_134 J3)] <;> rfl)
  exact ⟨h3, .int k, v, v8, C, S', t, R', X, L'⟩
theorem lc_2092 (L : lw_I xs n c h C S th R b) (Sc : lc_S xs v5 x1 x2 x3 x4 x5) : lc_P xs n c b v5 (jx_E 293 2092 [.ref 199, .ref 200, .ref 711, .ref 719, .ref 720, .int v5, v6, v7, v8] [] h) := by
  obtain ⟨K, I, J, Q, O, H, N, -⟩ := id L
  obtain ⟨o, h1, so, x0, I1, t1⟩ := c_97 K I x1
  have hc : co_P h C (jx_A 97 [.ref 200, .int x1] h) o := ⟨h1, x0, I1, t1⟩
  have hm := om_Q (S := S) (th := th) (R := R) (C := C) (mm := 216) (bs := [.ref 711, .int x1]) (Fs_gd x1 _) so (fun h2 J2 => m_216 J2 Q O x1) Q H
  have sO := So_gd (ty := ty_L) x1 (fun _ _ => ⟨_, rfl⟩) o so
  obtain ⟨h3, S', R', k, v, t, X, L'⟩ := lw_ex (w := 279) (ws := [.ref 200, .int x1, .ref 719]) (cv := cv_I) (ty := ty_L) (F := fun k v h3 => jx_E 293 2851 [.ref 199, .ref 200, .ref 711, .ref 719, .ref 720, .int v5, .int k, v, jx_j] [] h3) (N := fun h3 => some (.inl (some (.int 0)), h3)) (X := jx_E 293 2092 [.ref 199, .ref 200, .ref 711, .ref 719, .ref 720, .int v5, v6, v7, v8] [] h) L hc hm O (rl_N_w N (Nat.le_add_right b 13)) (fun v e => by subst e; exact sO) ⟨_, rfl⟩ (fun s e => by
    subst e
    have q : s = eNS := by simpa using sO
    rcases q with rfl
    · decide) (fun v h1 tv e => by
    obtain ⟨y, rfl⟩ := tv
    exact w_279_ok I e) (fun s h1 e x => by
    subst e
    have q : s = eNS := by simpa using sO
    rcases q with rfl
    · rw [show ce_1 eNS = 1 from by decide]; exact w_279_eNS I x) (fun k h2 v h3 t S' R' xw K2 J2 xm tv J3 => by
    obtain ⟨y, rfl⟩ := tv
    rw [b_293_2092, Sc.1 h K, jx_cI_e xw, Sc.1 h2 K2, ro_is J2, jx_cL_e xm, ro_is J3, jx_cI_e (m_134 J3)] <;> rfl)
  exact ⟨h3, .int k, v, jx_j, C, S', t, R', X, L'⟩
theorem lc_2147 (L : lw_I xs n c h C S th R b) (Sc : lc_S xs v5 x1 x2 x3 x4 x5) : lc_P xs n c b v5 (jx_E 293 2147 [.ref 199, .ref 200, .ref 711, .ref 719, .ref 720, .int v5, v6, v7, v8] [] h) := by
  obtain ⟨K, I, J, Q, O, H, N, -⟩ := id L
  obtain ⟨o, h1, so, x0, I1, t1⟩ := c_98Q K I
  have hc : co_P h C (jx_A 98 [.ref 200] h) o := ⟨h1, x0, I1, t1⟩
  have hm := om_Q (S := S) (th := th) (R := R) (C := C) (mm := 217) (bs := [.ref 711]) (Fs_lg) so (fun h2 J2 => m_217 J2 Q) Q H
  have sO := So_lg o so
  obtain ⟨h3, S', R', k, v, t, X, L'⟩ := lw_ex (w := 280) (ws := [.ref 200, .ref 719]) (cv := cv_I) (ty := ty_I) (F := fun k v h3 => jx_E 293 2851 [.ref 199, .ref 200, .ref 711, .ref 719, .ref 720, .int v5, .int k, v, v8] [] h3) (N := fun h3 => some (.inl (some (.int 0)), h3)) (X := jx_E 293 2147 [.ref 199, .ref 200, .ref 711, .ref 719, .ref 720, .int v5, v6, v7, v8] [] h) L hc hm O (rl_N_w N (Nat.le_add_right b 13)) (fun v e => by subst e; exact sO) ⟨_, rfl⟩ (fun s e => by
    subst e
    have q : s = eNS := by simpa using sO
    rcases q with rfl
    · decide) (fun v h1 tv e => by
    obtain ⟨y, rfl⟩ := tv
    exact w_280_ok I e) (fun s h1 e x => by
    subst e
    have q : s = eNS := by simpa using sO
    rcases q with rfl
    · rw [show ce_1 eNS = 1 from by decide]; exact w_280_eNS I x) (fun k h2 v h3 t S' R' xw K2 J2 xm tv J3 => by
    obtain ⟨y, rfl⟩ := tv
    rw [b_293_2147, jx_cI_e xw, ro_is J2, jx_cI_e xm, ro_is J3, jx_cI_e (m_134 J3)] <;> rfl)
  exact ⟨h3, .int k, v, v8, C, S', t, R', X, L'⟩
theorem lc_2257 (L : lw_I xs n c h C S th R b) (Sc : lc_S xs v5 x1 x2 x3 x4 x5) : lc_P xs n c b v5 (jx_E 293 2257 [.ref 199, .ref 200, .ref 711, .ref 719, .ref 720, .int v5, v6, v7, v8] [] h) := by
  obtain ⟨K, I, J, Q, O, H, N, -⟩ := id L
  obtain ⟨o, h1, so, x0, I1, t1⟩ := c_100Q K I
  have hc : co_P h C (jx_A 100 [.ref 200] h) o := ⟨h1, x0, I1, t1⟩
  have hm := om_Q (S := S) (th := th) (R := R) (C := C) (mm := 219) (bs := [.ref 711]) (Fs_jb) so (fun h2 J2 => m_219 J2 Q) Q H
  have sO := So_jb o so
  obtain ⟨h3, S', R', k, v, t, X, L'⟩ := lw_ex (w := 282) (ws := [.ref 200, .ref 719]) (cv := cv_I) (ty := ty_I) (F := fun k v h3 => jx_E 293 2851 [.ref 199, .ref 200, .ref 711, .ref 719, .ref 720, .int v5, .int k, v, v8] [] h3) (N := fun h3 => some (.inl (some (.int 0)), h3)) (X := jx_E 293 2257 [.ref 199, .ref 200, .ref 711, .ref 719, .ref 720, .int v5, v6, v7, v8] [] h) L hc hm O (rl_N_w N (Nat.le_add_right b 13)) (fun v e => by subst e; exact sO) ⟨_, rfl⟩ (fun s e => by
    subst e
    have q : s = eAR := by simpa using sO
    rcases q with rfl
    · decide) (fun v h1 tv e => by
    obtain ⟨y, rfl⟩ := tv
    exact w_282_ok I e) (fun s h1 e x => by
    subst e
    have q : s = eAR := by simpa using sO
    rcases q with rfl
    · rw [show ce_1 eAR = 1 from by decide]; exact w_282_eAR I x) (fun k h2 v h3 t S' R' xw K2 J2 xm tv J3 => by
    obtain ⟨y, rfl⟩ := tv
    rw [b_293_2257, jx_cI_e xw, ro_is J2, jx_cI_e xm, ro_is J3, jx_cI_e (m_134 J3)] <;> rfl)
  exact ⟨h3, .int k, v, v8, C, S', t, R', X, L'⟩
theorem lc_1367 (L : lw_I xs n c h C S th R b) (Sc : lc_S xs v5 x1 x2 x3 x4 x5) : lc_P xs n c b v5 (jx_E 293 1367 [.ref 199, .ref 200, .ref 711, .ref 719, .ref 720, .int v5, v6, v7, v8] [] h) := by
  obtain ⟨K, I, J, Q, O, H, N, -⟩ := id L
  obtain ⟨o, h1, so, x0, I1, t1⟩ := c_81Q I ((x1.toUInt32 % 65536).toInt32)
  have hc : co_P h C (jx_A 81 [.ref 200, .int ((x1.toUInt32 % 65536).toInt32)] h) o := ⟨h1, x0, I1, t1⟩
  have hm := om_Q (S := S) (th := th) (R := R) (C := C) (mm := 202) (bs := [.ref 711, .int ((x1.toUInt32 % 65536).toInt32)]) (Fs_cm _) so (fun h2 J2 => m_202Q J2 Q ((x1.toUInt32 % 65536).toInt32)) Q H
  have sO := So_cm _ o so
  obtain ⟨h3, S', R', k, v, t, X, L'⟩ := lw_ex (w := 270) (ws := [.ref 200, .int ((x1.toUInt32 % 65536).toInt32), .ref 719]) (cv := cv_I) (ty := ty_L) (F := fun k v h3 => jx_E 293 2851 [.ref 199, .ref 200, .ref 711, .ref 719, .ref 720, .int v5, .int k, v, jx_j] [] h3) (N := fun h3 => some (.inl (some (.int 0)), h3)) (X := jx_E 293 1367 [.ref 199, .ref 200, .ref 711, .ref 719, .ref 720, .int v5, v6, v7, v8] [] h) L hc hm O (rl_N_w N (Nat.le_add_right b 13)) (fun v e => by subst e; exact sO) ⟨_, rfl⟩ (fun s e => by
    subst e
    have q : s = eIA := by simpa using sO
    rcases q with rfl
    · decide) (fun v h1 tv e => by
    obtain ⟨y, rfl⟩ := tv
    exact w_270_ok I e) (fun s h1 e x => by
    subst e
    have q : s = eIA := by simpa using sO
    rcases q with rfl
    · rw [show ce_1 eIA = 1 from by decide]; exact w_270_eIA I x) (fun k h2 v h3 t S' R' xw K2 J2 xm tv J3 => by
    obtain ⟨y, rfl⟩ := tv
    rw [b_293_1367, Sc.1 h K, jx_cI_e xw, Sc.1 h2 K2, ro_is J2, jx_cL_e xm, ro_is J3, jx_cI_e (m_134 J3)] <;> rfl)
  exact ⟨h3, .int k, v, jx_j, C, S', t, R', X, L'⟩
end LW
end JX
