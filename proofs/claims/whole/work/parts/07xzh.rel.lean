/-! Both objects side by side. -/
section JX
theorem mz_ag_s {lo hi lo' hi' : Nat} {h h' : jx_H} (e : mz_ag lo hi h h') (h1 : lo ≤ lo') (h2 : hi' ≤ hi) : mz_ag lo' hi' h h' := fun q a b => e q (by omega) (by omega)
theorem cl_I_ag {h h' : jx_H} {C : cl_T} (I : cl_I h C) (e : mz_ag 200 711 h h') : cl_I h' C := by
  obtain ⟨nx, j1, j2, j3, j4, j5, j6, j7, j8, j9, j10⟩ := I
  have n9 : nx < 9 := j4.2.2.1
  refine ⟨nx, mz_ag_at e (by decide) (by decide) j1, bd_R_ag j2 (mz_ag_s e (by decide) (by decide)), ?_, hs_ag j4 (mz_ag_s e (by decide) (by decide)), fun k hk => bd_V_ag (j5 k hk) (mz_ag_s e (by omega) (by omega)), fun j hj => bd_R_ag (j6 j hj) (mz_ag_s e (by omega) (by omega)), gs_V_ag j7 (mz_ag_s e (by decide) (by decide)), gu_V_ag j8 (mz_ag_s e (by decide) (by decide)), sc_V_ag j9 (mz_ag_s e (by decide) (by decide)), ou_V_ag j10 (mz_ag_s e (by decide) (by decide))⟩
  unfold cl_sv at j3 ⊢
  revert j3
  cases C.2.1 with
  | none => intro j3; exact bd_V_ag j3 (mz_ag_s e (by decide) (by decide))
  | some T => intro j3; exact bd_R_ag j3 (mz_ag_s e (by decide) (by decide))
theorem ro_S_c {S S' : Nat → Nat} {M : mm_T} (e : ∀ k, k < 225 → S' k = S k) (H : ro_S S M) : ro_S S' M := by
  obtain ⟨p, A, g, ⟨b1, b2, b3, b4, b5, b6, b7, b8⟩, r⟩ := H
  refine ⟨p, A, g, ⟨by rw [e 0 (by decide)]; exact b1, fun k hk => ⟨(b2 k hk).1, fun w hw => ?_⟩, fun k h1 h2 => ?_, fun c hc => ?_, b5, b6, b7, b8⟩, r⟩
  · have := b7 k (by omega)
    rw [e _ (by omega)]; exact (b2 k hk).2 w hw
  · have := b7 k h2
    rw [e _ (by omega)]; exact b3 k h1 h2
  · rw [e _ (by omega)]; exact b4 c hc
/-- all but the boards agree -/
def rl_R (R : ro_R) (C : cl_T) : Prop :=
  (ro_sv R = C.2.1.isSome ∧ ∀ T, C.2.1 = some T → ro_S R.2.1 T ∧ mm_ok T) ∧
  (ro_pm R = C.2.2.1 ∧ C.2.2.1 ≤ 8 ∧ ∀ j, j < C.2.2.1 → ro_S (fun k => R.2.2.1 (225 * (C.2.2.1 - 1 - j) + k)) (C.2.2.2.1 j) ∧ mm_ok (C.2.2.2.1 j)) ∧
  (ro_ol R = C.2.2.2.2.1.1 ∧ ro_ol R ≤ 8 ∧ ∀ j, j < ro_ol R → R.2.2.2.1 j = C.2.2.2.2.1.2 j ∧ R.2.2.2.1 j < 65536) ∧
  (ro_il R = C.2.2.2.2.2.1.1 ∧ ro_il R ≤ 60 ∧ ∀ j, j < ro_il R → R.2.2.2.2.1 j = C.2.2.2.2.2.1.2 j ∧ R.2.2.2.2.1 j < 65536) ∧
  (ro_kp R = C.2.2.2.2.2.2.1 ∧ (ro_kp R = -1 ∨ ¬ ro_kp R < 0)) ∧ (ro_kc R = C.2.2.2.2.2.2.2 ∧ (ro_kc R = -1 ∨ ¬ ro_kc R < 0))
/-- the next ids are below a bound -/
def rl_N (C : cl_T) (b : Nat) : Prop := C.1.2.1 ≤ b ∧ (∀ T, C.2.1 = some T → T.2.1 ≤ b) ∧ ∀ j, j < C.2.2.1 → (C.2.2.2.1 j).2.1 ≤ b
theorem rl_N_w {C : cl_T} {b b' : Nat} (H : rl_N C b) (h : b ≤ b') : rl_N C b' := ⟨Nat.le_trans H.1 h, fun T e => Nat.le_trans (H.2.1 T e) h, fun j hj => Nat.le_trans (H.2.2 j hj) h⟩
theorem rl_N_push {C : cl_T} {b b' : Nat} {M' : mm_T} (H : rl_N C b) (h : b ≤ b') (hM : M'.2.1 ≤ b') : rl_N (cl_push (cl_M C M') C.1) b' := by
  refine ⟨hM, fun T e => Nat.le_trans (H.2.1 T e) h, fun j hj => ?_⟩
  have hj : j < min (C.2.2.1 + 1) 8 := hj
  match j, hj with
  | 0, _ => exact Nat.le_trans H.1 h
  | j + 1, hj => exact Nat.le_trans (H.2.2 j (by omega)) h
section RL
variable {R : ro_R} {C : cl_T} {S : Nat → Nat}
theorem rl_B (H : rl_R R C) (B : Nat → Nat) : rl_R (ro_B R B) C := H
theorem rl_M {M : mm_T} (H : rl_R R C) : rl_R R (cl_M C M) := H
theorem rl_push (H : rl_R R C) (Q : ro_S R.1 C.1) (O : mm_ok C.1) : rl_R (ro_P R (ro_ps8 R).1 (ro_ps8 R).2) (cl_push C C.1) := by
  obtain ⟨a1, ⟨b1, b2, b3⟩, a3⟩ := H
  refine ⟨a1, ?_, a3⟩
  unfold ro_ps8
  by_cases c : ro_pm R = 8
  · rw [if_pos c]
    have c8 : C.2.2.1 = 8 := b1.symm.trans c
    have m8 : min (C.2.2.1 + 1) 8 = 8 := by omega
    refine ⟨m8.symm, (show min (C.2.2.1 + 1) 8 ≤ 8 by omega), fun j hj => ?_⟩
    have hj : j < min (C.2.2.1 + 1) 8 := hj
    show ro_S (fun k => mz_cq R.1 (mz_cq R.2.2.1 R.2.2.1 225 0 1575) 0 1575 225 (225 * (min (C.2.2.1 + 1) 8 - 1 - j) + k)) _ ∧ _
    rw [m8]
    match j, hj with
    | 0, _ =>
      refine ⟨ro_S_c (fun k hk => ?_) Q, O⟩
      unfold mz_cq
      rw [if_pos ⟨by omega, by omega⟩]
      exact congrArg R.1 (by omega)
    | j + 1, hj =>
      obtain ⟨q1, q2⟩ := b3 j (by omega)
      refine ⟨ro_S_c (fun k hk => ?_) q1, q2⟩
      unfold mz_cq
      rw [if_neg (by omega), if_pos ⟨by omega, by omega⟩]
      exact congrArg R.2.2.1 (by omega)
  · rw [if_neg c]
    have m8 : min (C.2.2.1 + 1) 8 = C.2.2.1 + 1 := by omega
    refine ⟨(show ro_pm R + 1 = min (C.2.2.1 + 1) 8 by omega), (show min (C.2.2.1 + 1) 8 ≤ 8 by omega), fun j hj => ?_⟩
    have hj : j < min (C.2.2.1 + 1) 8 := hj
    show ro_S (fun k => mz_cq R.1 R.2.2.1 0 (225 * ro_pm R) 225 (225 * (min (C.2.2.1 + 1) 8 - 1 - j) + k)) _ ∧ _
    rw [m8, b1]
    match j, hj with
    | 0, _ =>
      refine ⟨ro_S_c (fun k hk => ?_) Q, O⟩
      unfold mz_cq
      rw [if_pos ⟨by omega, by omega⟩]
      exact congrArg R.1 (by omega)
    | j + 1, hj =>
      obtain ⟨q1, q2⟩ := b3 j (by omega)
      refine ⟨ro_S_c (fun k hk => ?_) q1, q2⟩
      unfold mz_cq
      rw [if_neg (by omega)]
      exact congrArg R.2.2.1 (by omega)
end RL
/-- the law's state: script, both objects, what has been thrown, two rows of one, how much has been made -/
def lw_I (xs : List Int32) (n c : Nat) (h : jx_H) (C : cl_T) (S : Nat → Nat) (th : Int32) (R : ro_R) (b : Nat) : Prop :=
  mz_K xs h ∧ cl_I h C ∧ ro_I h 711 S th R ∧ ro_S S C.1 ∧ mm_ok C.1 ∧ rl_R R C ∧ rl_N C b ∧ (∃ z, h.1 719 = some (102, [.long z])) ∧ (∃ z, h.1 720 = some (103, [.double z])) ∧ h.2.1 = 721 ∧ h.2.2.1 ≤ n ∧ h.2.2.2 ≤ c
/-- what a call of the class has done -/
def co_P (h : jx_H) (C' : cl_T) (X : jx_R) (o : q_O) : Prop := ∃ h', X = q_res o h' ∧ cl_I h' C' ∧ mz_eq 200 711 h h'
/-- and a call of the other one -/
def om_P (h : jx_H) (S' : Nat → Nat) (R' : ro_R) (X : jx_R) (o : q_O) (ce : String → Int32) (dv : Value) : Prop :=
  ∃ h', mz_eq 711 719 h h' ∧ match o with
    | .inl v => X = some (.inl (some v), h') ∧ ro_I h' 711 S' 0 R'
    | .inr s => X = some (.inl (some dv), h') ∧ ro_I h' 711 S' (ce s) R'
section LW
variable {xs : List Int32} {n c b : Nat} {h : jx_H} {C : cl_T} {S : Nat → Nat} {th : Int32} {R : ro_R}
theorem lw_n (L : lw_I xs n c h C S th R b) : C.1.1 ≤ 20 := by obtain ⟨p, A, g, B, -⟩ := L.2.2.2.1; exact B.2.2.2.2.1
theorem lw_pm (L : lw_I xs n c h C S th R b) : ro_pm R ≤ 8 := by have := L.2.2.2.2.2.1.2.1; omega
/-- behind the class's call -/
theorem lw_1 {C' : cl_T} {h' : jx_H} (L : lw_I xs n c h C S th R b) (I : cl_I h' C') (e : mz_eq 200 711 h h') : mz_K xs h' ∧ ro_I h' 711 S th R ∧ (∃ z, h'.1 719 = some (102, [.long z])) ∧ (∃ z, h'.1 720 = some (103, [.double z])) ∧ h'.2.1 = 721 ∧ h'.2.2.1 ≤ n ∧ h'.2.2.2 ≤ c := by
  obtain ⟨l1, l2, l3, l4, l5, l6, l7, ⟨z, l8⟩, ⟨z', l9⟩, l10, l11, l12⟩ := L
  refine ⟨mz_K_eq l1 e (by decide), ro_ag l3 (mz_ag_eq e (by decide)), ⟨z, mz_eq_at e (by decide) l8⟩, ⟨z', mz_eq_at e (by decide) l9⟩, ?_, ?_, ?_⟩
  · rw [e.2]; exact l10
  · rw [e.2]; exact l11
  · rw [e.2]; exact l12
/-- everything behind both calls -/
theorem lw_2 {C' : cl_T} {S' : Nat → Nat} {R' : ro_R} {b' : Nat} {th' : Int32} {h1 h2 h3 : jx_H} (L : lw_I xs n c h C S th R b) (I : cl_I h1 C') (e : mz_eq 200 711 h h1)
    (f1 : ∀ q, q < 719 → h2.1 q = h1.1 q) (f2 : ∃ z, h2.1 719 = some (102, [.long z])) (f3 : ∃ z, h2.1 720 = some (103, [.double z])) (f4 : h2.2.1 = h1.2.1) (f5 : h2.2.2.1 ≤ h1.2.2.1 + 1) (f6 : h2.2.2.2 ≤ h1.2.2.2 + 6)
    (J : ro_I h3 711 S' th' R') (e3 : mz_eq 711 719 h2 h3) (hrel : ro_S S' C'.1 ∧ mm_ok C'.1 ∧ rl_R R' C' ∧ rl_N C' b') : lw_I xs (n + 1) (c + 6) h3 C' S' th' R' b' := by
  obtain ⟨k1, k2, k3, k4, k5, k6, k7⟩ := lw_1 L I e
  obtain ⟨z, f2⟩ := f2
  obtain ⟨z', f3⟩ := f3
  refine ⟨fun q hq => ?_, cl_I_ag (cl_I_ag I (fun q _ hq => f1 q (by omega))) (mz_ag_eq e3 (by decide)), J, hrel.1, hrel.2.1, hrel.2.2.1, hrel.2.2.2, ⟨z, mz_eq_at e3 (by decide) f2⟩, ⟨z', mz_eq_at e3 (by decide) f3⟩, ?_, ?_, ?_⟩
  · rw [e3.1 q (Or.inl (by have : jx_nc = 200 := rfl; omega)), f1 q (by have : jx_nc = 200 := rfl; omega)]
    exact k1 q hq
  · rw [e3.2, f4]; exact k5
  · rw [e3.2]; omega
  · rw [e3.2]; omega
theorem m_134 (J : ro_I h 711 S th R) : jx_A 134 [.ref 711] h = some (.inl (some (.int th)), h) := by rw [a_134, ro_6 J]
/-- a call that throws nothing, asked for a number -/
theorem lw_pl {m mm : Nat} {as bs : List Value} {y : Int32} {F N : jx_H → jx_R} {X : jx_R} {C' : cl_T} {b' : Nat} (L : lw_I xs n c h C S th R b)
    (hc : co_P h C' (jx_A m as h) (.inl (.int y))) (hm : ∀ h2, ro_I h2 711 S th R → ∃ h' S' R', jx_A mm bs h2 = some (.inl (some (.int y)), h') ∧ ro_I h' 711 S' 0 R' ∧ mz_eq 711 719 h2 h' ∧ ro_S S' C'.1 ∧ rl_R R' C')
    (hok : mm_ok C'.1) (hN : rl_N C' b')
    (hX : ∀ h1 h3, mz_K xs h1 → ro_I h1 711 S th R → jx_A m as h = some (.inl (some (.int y)), h1) → jx_A mm bs h1 = some (.inl (some (.int y)), h3) → X = if y = y then F h3 else N h3) :
    ∃ h3 S' R', X = F h3 ∧ lw_I xs (n + 1) (c + 6) h3 C' S' 0 R' b' := by
  obtain ⟨h1, x1, I1, t1⟩ := hc
  have x1 : jx_A m as h = some (.inl (some (.int y)), h1) := x1
  obtain ⟨k1, k2, k3, k4, k5, k6, k7⟩ := lw_1 L I1 t1
  obtain ⟨h3, S', R', x3, J3, t3, q1, q2⟩ := hm h1 k2
  refine ⟨h3, S', R', ?_, lw_2 L I1 t1 (fun _ _ => rfl) k3 k4 rfl (by omega) (by omega) J3 t3 ⟨q1, hok, q2, hN⟩⟩
  rw [hX h1 h3 k1 k2 x1 x3, if_pos rfl]
theorem lw_plL {m mm : Nat} {as bs : List Value} {y : Int64} {F N : jx_H → jx_R} {X : jx_R} {C' : cl_T} {b' : Nat} (L : lw_I xs n c h C S th R b)
    (hc : co_P h C' (jx_A m as h) (.inl (.long y))) (hm : ∀ h2, ro_I h2 711 S th R → ∃ h' S' R', jx_A mm bs h2 = some (.inl (some (.long y)), h') ∧ ro_I h' 711 S' 0 R' ∧ mz_eq 711 719 h2 h' ∧ ro_S S' C'.1 ∧ rl_R R' C')
    (hok : mm_ok C'.1) (hN : rl_N C' b')
    (hX : ∀ h1 h3, mz_K xs h1 → ro_I h1 711 S th R → jx_A m as h = some (.inl (some (.long y)), h1) → jx_A mm bs h1 = some (.inl (some (.long y)), h3) → X = if lg_cmp y y = 0 then F h3 else N h3) :
    ∃ h3 S' R', X = F h3 ∧ lw_I xs (n + 1) (c + 6) h3 C' S' 0 R' b' := by
  obtain ⟨h1, x1, I1, t1⟩ := hc
  have x1 : jx_A m as h = some (.inl (some (.long y)), h1) := x1
  obtain ⟨k1, k2, k3, k4, k5, k6, k7⟩ := lw_1 L I1 t1
  obtain ⟨h3, S', R', x3, J3, t3, q1, q2⟩ := hm h1 k2
  refine ⟨h3, S', R', ?_, lw_2 L I1 t1 (fun _ _ => rfl) k3 k4 rfl (by omega) (by omega) J3 t3 ⟨q1, hok, q2, hN⟩⟩
  rw [hX h1 h3 k1 k2 x1 x3, if_pos (lg_0.mpr rfl)]
/-- a call that may throw: the wrapper's number, the other object's number, the answers where nothing was thrown -/
theorem lw_exK {m mm w : Nat} {as bs ws : List Value} {o : q_O} {ce : String → Int32} {dv : Value} {cv : Value → Int64} {F : Int32 → Value → jx_H → jx_R} {N : jx_H → jx_R} {X : jx_R} {C' : cl_T} {b' : Nat} {ty : Value → Prop} (L : lw_I xs n c h C S th R b)
    (hc : co_P h C' (jx_A m as h) o) (hm : ∀ h2, mz_K xs h2 → ro_I h2 711 S th R → ∃ S' R', om_P h2 S' R' (jx_A mm bs h2) o ce dv ∧ ro_S S' C'.1 ∧ rl_R R' C')
    (hok : mm_ok C'.1) (hN : rl_N C' b')
    (hty : ∀ v, o = .inl v → ty v) (hdv : ty dv) (hce : ∀ s, o = .inr s → ce s ≠ 0)
    (wok : ∀ v h1, ty v → jx_A m as h = some (.inl (some v), h1) → jx_A w ws h = jx_st h1 719 102 0 (.long (cv v)) (fun h6 => some (.inl (some (.int 0)), h6)))
    (wex : ∀ s h1, o = .inr s → jx_A m as h = some (.inr s, h1) → jx_A w ws h = some (.inl (some (.int (ce s))), h1))
    (hX : ∀ k h2 v h3 t S' R', jx_A w ws h = some (.inl (some (.int k)), h2) → mz_K xs h2 → ro_I h2 711 S th R → jx_A mm bs h2 = some (.inl (some v), h3) → ty v → ro_I h3 711 S' t R' → X = if t = k then (if k = 0 then (jx_lL h3 719 102 0 (fun x => if (lg_cmp x (cv v)) = 0 then F k v h3 else N h3)) else F k v h3) else N h3) :
    ∃ h3 S' R' k v t, X = F k v h3 ∧ lw_I xs (n + 1) (c + 6) h3 C' S' t R' b' := by
  obtain ⟨h1, x1, I1, t1⟩ := hc
  obtain ⟨k1, k2, k3, k4, k5, k6, k7⟩ := lw_1 L I1 t1
  cases o with
  | inl v =>
    have x1 : jx_A m as h = some (.inl (some v), h1) := x1
    have tv := hty v rfl
    obtain ⟨z0, k3⟩ := k3
    obtain ⟨z1, k4⟩ := k4
    have st : ∀ F, jx_st h1 719 102 0 (.long (cv v)) F = F (jx_set h1 719 (102, [.long (cv v)])) := fun F => (jx_st_e (i := 0) (v := .long (cv v)) k3 (by decide) (by decide) (by show (0 : Int32).toNatClampNeg < 1; decide) F).trans rfl
    have xw := wok v h1 tv x1
    rw [st] at xw
    have K2 : mz_K xs (jx_set h1 719 (102, [.long (cv v)])) := mz_K_eq k1 (mz_eq_st (lo := 719) (hi := 720) (by decide) (by decide)) (by decide)
    have J2 : ro_I (jx_set h1 719 (102, [.long (cv v)])) 711 S th R := ro_ag k2 (mz_ag_eq (mz_eq_st (lo := 719) (hi := 720) (by decide) (by decide)) (by decide))
    obtain ⟨S', R', ⟨h3, t3, x3, J3⟩, q1, q2⟩ := hm _ K2 J2
    have l719 : (jx_set h1 719 (102, [.long (cv v)])).1 719 = some (102, [.long (cv v)]) := mz_set_e
    refine ⟨h3, S', R', 0, v, 0, ?_, lw_2 L I1 t1 (fun q hq => mz_set_n (by omega)) ⟨cv v, l719⟩ ⟨z1, by rw [mz_set_n (by decide)]; exact k4⟩ rfl (Nat.le_succ _) (Nat.le_add_right _ _) J3 t3 ⟨q1, hok, q2, hN⟩⟩
    have l3 : h3.1 719 = some (102, [.long (cv v)]) := mz_eq_at t3 (by decide) l719
    rw [hX 0 _ v h3 0 S' R' xw K2 J2 x3 tv J3, if_pos rfl, if_pos rfl, jx_lL_e l3 (by decide) (x := cv v) rfl, if_pos (lg_0.mpr rfl)]
  | inr s =>
    have x1 : jx_A m as h = some (.inr s, jx_thr h1) := x1
    have xw := wex s _ rfl x1
    have K2 : mz_K xs (jx_thr h1) := k1
    have J2 : ro_I (jx_thr h1) 711 S th R := ro_ag k2 (fun _ _ _ => rfl)
    obtain ⟨S', R', ⟨h3, t3, x3, J3⟩, q1, q2⟩ := hm _ K2 J2
    refine ⟨h3, S', R', ce s, dv, ce s, ?_, lw_2 (h2 := jx_thr h1) L I1 t1 (fun q hq => rfl) k3 k4 rfl (Nat.le_refl _) (Nat.le_refl _) J3 t3 ⟨q1, hok, q2, hN⟩⟩
    rw [hX _ _ dv h3 (ce s) S' R' xw K2 J2 x3 hdv J3, if_pos rfl, if_neg (hce s rfl)]
theorem lw_ex {m mm w : Nat} {as bs ws : List Value} {o : q_O} {ce : String → Int32} {dv : Value} {cv : Value → Int64} {F : Int32 → Value → jx_H → jx_R} {N : jx_H → jx_R} {X : jx_R} {C' : cl_T} {b' : Nat} {ty : Value → Prop} (L : lw_I xs n c h C S th R b)
    (hc : co_P h C' (jx_A m as h) o) (hm : ∀ h2, ro_I h2 711 S th R → ∃ S' R', om_P h2 S' R' (jx_A mm bs h2) o ce dv ∧ ro_S S' C'.1 ∧ rl_R R' C')
    (hok : mm_ok C'.1) (hN : rl_N C' b')
    (hty : ∀ v, o = .inl v → ty v) (hdv : ty dv) (hce : ∀ s, o = .inr s → ce s ≠ 0)
    (wok : ∀ v h1, ty v → jx_A m as h = some (.inl (some v), h1) → jx_A w ws h = jx_st h1 719 102 0 (.long (cv v)) (fun h6 => some (.inl (some (.int 0)), h6)))
    (wex : ∀ s h1, o = .inr s → jx_A m as h = some (.inr s, h1) → jx_A w ws h = some (.inl (some (.int (ce s))), h1))
    (hX : ∀ k h2 v h3 t S' R', jx_A w ws h = some (.inl (some (.int k)), h2) → mz_K xs h2 → ro_I h2 711 S th R → jx_A mm bs h2 = some (.inl (some v), h3) → ty v → ro_I h3 711 S' t R' → X = if t = k then (if k = 0 then (jx_lL h3 719 102 0 (fun x => if (lg_cmp x (cv v)) = 0 then F k v h3 else N h3)) else F k v h3) else N h3) :
    ∃ h3 S' R' k v t, X = F k v h3 ∧ lw_I xs (n + 1) (c + 6) h3 C' S' t R' b' :=
  lw_exK L hc (fun h2 _ J2 => hm h2 J2) hok hN hty hdv hce wok wex hX
/-- the same, where the answer is kept as a double -/
theorem lw_exD {m mm w : Nat} {as bs ws : List Value} {o : q_O} {ce : String → Int32} {dv : Value} {d : UInt64} {F : Int32 → Value → jx_H → jx_R} {G : UInt64 → Value → jx_H → jx_R} {N : jx_H → jx_R} {X : jx_R} (L : lw_I xs n c h C S th R b)
    (hc : co_P h C (jx_A m as h) o) (hm : ∀ h2, ro_I h2 711 S th R → ∃ S' R', om_P h2 S' R' (jx_A mm bs h2) o ce dv ∧ ro_S S' C.1 ∧ rl_R R' C) {b' : Nat} (hN : rl_N C b')
    (hce : ∀ s, o = .inr s → ce s ≠ 0)
    (wok : ∀ v h1, o = .inl v → jx_A m as h = some (.inl (some v), h1) → jx_A w ws h = jx_st h1 720 103 0 (.double d) (fun h6 => some (.inl (some (.int 0)), h6)))
    (wex : ∀ s h1, o = .inr s → jx_A m as h = some (.inr s, h1) → jx_A w ws h = some (.inl (some (.int (ce s))), h1))
    (hG : ∀ v h3, o = .inl v → h3.1 720 = some (103, [.double d]) → G d v h3 = F 0 v h3)
    (hX : ∀ k h2 v h3 t S' R', jx_A w ws h = some (.inl (some (.int k)), h2) → ro_I h2 711 S th R → jx_A mm bs h2 = some (.inl (some v), h3) → (o = .inl v ∨ v = dv) → ro_I h3 711 S' t R' → X = if t = k then (if k = 0 then (jx_lD h3 720 103 0 (fun x => G x v h3)) else F k v h3) else N h3) :
    ∃ h3 S' R' k v t, X = F k v h3 ∧ (o = .inl v ∨ v = dv) ∧ lw_I xs (n + 1) (c + 6) h3 C S' t R' b' := by
  have hok := L.2.2.2.2.1
  obtain ⟨h1, x1, I1, t1⟩ := hc
  obtain ⟨k1, k2, k3, k4, k5, k6, k7⟩ := lw_1 L I1 t1
  cases o with
  | inl v =>
    have x1 : jx_A m as h = some (.inl (some v), h1) := x1
    obtain ⟨z0, k3⟩ := k3
    obtain ⟨z1, k4⟩ := k4
    have st : ∀ F, jx_st h1 720 103 0 (.double d) F = F (jx_set h1 720 (103, [.double d])) := fun F => (jx_st_e (i := 0) (v := .double d) k4 (by decide) (by decide) (by show (0 : Int32).toNatClampNeg < 1; decide) F).trans rfl
    have xw := wok v h1 rfl x1
    rw [st] at xw
    have J2 : ro_I (jx_set h1 720 (103, [.double d])) 711 S th R := ro_ag k2 (mz_ag_eq (mz_eq_st (lo := 720) (hi := 721) (by decide) (by decide)) (by decide))
    obtain ⟨S', R', ⟨h3, t3, x3, J3⟩, q1, q2⟩ := hm _ J2
    have l720 : (jx_set h1 720 (103, [.double d])).1 720 = some (103, [.double d]) := mz_set_e
    refine ⟨h3, S', R', 0, v, 0, ?_, Or.inl rfl, lw_2 L I1 t1 (fun q hq => mz_set_n (by omega)) ⟨z0, by rw [mz_set_n (by decide)]; exact k3⟩ ⟨d, l720⟩ rfl (Nat.le_succ _) (Nat.le_add_right _ _) J3 t3 ⟨q1, hok, q2, hN⟩⟩
    have l3 : h3.1 720 = some (103, [.double d]) := mz_eq_at t3 (by decide) l720
    rw [hX 0 _ v h3 0 S' R' xw J2 x3 (Or.inl rfl) J3, if_pos rfl, if_pos rfl, jx_lD_e l3 (by decide) (x := d) rfl, hG v h3 rfl l3]
  | inr s =>
    have x1 : jx_A m as h = some (.inr s, jx_thr h1) := x1
    have xw := wex s _ rfl x1
    have J2 : ro_I (jx_thr h1) 711 S th R := ro_ag k2 (fun _ _ _ => rfl)
    obtain ⟨S', R', ⟨h3, t3, x3, J3⟩, q1, q2⟩ := hm _ J2
    refine ⟨h3, S', R', ce s, dv, ce s, ?_, Or.inr rfl, lw_2 (h2 := jx_thr h1) L I1 t1 (fun q hq => rfl) k3 k4 rfl (Nat.le_refl _) (Nat.le_refl _) J3 t3 ⟨q1, hok, q2, hN⟩⟩
    rw [hX _ _ dv h3 (ce s) S' R' xw J2 x3 (Or.inr rfl) J3, if_pos rfl, if_neg (hce s rfl)]
/-- what follows a call in the law -/
def lc_P (xs : List Int32) (n c b : Nat) (v5 : Int32) (X : jx_R) : Prop :=
  ∃ h3 w6 w7 w8 C' S' t R', X = jx_E 293 2851 [.ref 199, .ref 200, .ref 711, .ref 719, .ref 720, .int v5, w6, w7, w8] [] h3 ∧ lw_I xs (n + 1) (c + 6) h3 C' S' t R' (b + 13)
/-- the script's numbers behind a place -/
def lc_S (xs : List Int32) (v5 x1 x2 x3 x4 x5 : Int32) : Prop :=
  (∀ h, mz_K xs h → ∀ F, jx_lI h 199 100 (v5 + 1) F = F x1) ∧ (∀ h, mz_K xs h → ∀ F, jx_lI h 199 100 (v5 + 2) F = F x2) ∧ (∀ h, mz_K xs h → ∀ F, jx_lI h 199 100 (v5 + 3) F = F x3) ∧ (∀ h, mz_K xs h → ∀ F, jx_lI h 199 100 (v5 + 4) F = F x4) ∧ (∀ h, mz_K xs h → ∀ F, jx_lI h 199 100 (v5 + 5) F = F x5)
theorem jx_hd_y {e : String} {t : Nat} {r : List (String × Nat)} {f : Nat → jx_R} {g : jx_R} : jx_hd e ((e, t) :: r) f g = f t := if_pos rfl
theorem jx_hd_n {e x : String} {t : Nat} {r : List (String × Nat)} {f : Nat → jx_R} {g : jx_R} (h : e ≠ x) : jx_hd e ((x, t) :: r) f g = jx_hd e r f g := if_neg h
theorem cl_I_is (I : cl_I h C) (F : jx_R) : jx_is h 200 7 F = F := by obtain ⟨nx, J⟩ := I; exact cl_is J F
def ty_I (v : Value) : Prop := ∃ y, v = .int y
def ty_L (v : Value) : Prop := ∃ y, v = .long y
def cv_I (v : Value) : Int64 := match v with | .int y => y.toInt64 | .long y => y | _ => 0
def cv_B (v : Value) : Int64 := match v with | .int y => (if y = 0 then 0 else 1) | _ => 0
/-- a spec's answers: of a type, or of these exceptions -/
def So (ty : Value → Prop) (l : List String) (sp : q_O → Prop) : Prop := ∀ o, sp o → match o with | .inl v => ty v | .inr e => e ∈ l
theorem om_Q {sp : q_O → Prop} {ce : String → Int32} {dv : Value} {o : q_O} {mm : Nat} {bs : List Value} (f : Fs sp) (so : sp o) (H : ∀ h2, ro_I h2 711 S th R → rd_Q h2 711 S R (jx_A mm bs h2) sp ce dv) (Q : ro_S S C.1) (P : rl_R R C) : ∀ h2, ro_I h2 711 S th R → ∃ S' R', om_P h2 S' R' (jx_A mm bs h2) o ce dv ∧ ro_S S' C.1 ∧ rl_R R' C := fun h2 J2 => by
  obtain ⟨o', h3, so', t3, r⟩ := H h2 J2
  have e := f o o' so so'
  subst e
  exact ⟨S, R, ⟨h3, t3, r⟩, Q, P⟩
end LW
end JX
