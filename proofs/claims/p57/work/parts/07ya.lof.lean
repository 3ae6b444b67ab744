/-! The law on my machine: what stays behind a call, and what it costs. -/
section JX
theorem mz_ag_s {lo hi lo' hi' : Nat} {h h' : jx_H} (e : mz_ag lo hi h h') (h1 : lo ≤ lo') (h2 : hi' ≤ hi) : mz_ag lo' hi' h h' := fun q a b => e q (by omega) (by omega)
theorem cl_I_ag {h h' : jx_H} {C : cl_T} (I : cl_I h C) (e : mz_ag 200 711 h h') : cl_I h' C := by
  obtain ⟨nx, j1, j2, j3, j4, j5, j6, j7, j8, j9, j10⟩ := I
  have n9 : nx < 9 := j4.2.2.1
  refine ⟨nx, mz_ag_at e (by decide) (by decide) j1, bd_R_ag j2 (mz_ag_s e (by decide) (by decide)), ?_, hs_ag j4 (mz_ag_s e (by decide) (by decide)), fun k hk => bd_V_ag (j5 k hk) (mz_ag_s e (by omega) (by omega)), fun j hj => bd_R_ag (j6 j hj) (mz_ag_s e (by omega) (by omega)), gs_V_ag j7 (mz_ag_s e (by decide) (by decide)), gu_V_ag j8 (mz_ag_s e (by decide) (by decide)), sc_V_ag j9 (mz_ag_s e (by decide) (by decide)), ou_V_ag j10 (mz_ag_s e (by decide) (by decide))⟩
  unfold cl_sv at j3 ⊢
  revert j3
  cases C.2.1 with
  | none => intro j3; exact bd_V_ag j3 (mz_ag_s e (by decide) (by decide))
  | some T => intro j3; exact bd_R_ag j3 (mz_ag_s e (by decide) (by decide))
theorem jx_hd_y {e : String} {t : Nat} {r : List (String × Nat)} {f : Nat → jx_R} {g : jx_R} : jx_hd e ((e, t) :: r) f g = f t := if_pos rfl
theorem jx_hd_n {e x : String} {t : Nat} {r : List (String × Nat)} {f : Nat → jx_R} {g : jx_R} (h : e ≠ x) : jx_hd e ((x, t) :: r) f g = jx_hd e r f g := if_neg h
theorem cl_I_is {h : jx_H} {C : cl_T} (I : cl_I h C) (F : jx_R) : jx_is h 200 7 F = F := by obtain ⟨nx, J⟩ := I; exact cl_is J F
/-- aside of the class's object nothing that was there has changed; no more than so much is new -/
def zz (N : Nat) (h h' : jx_H) : Prop := (∀ q, (q < 200 ∨ (711 ≤ q ∧ q < h.2.1)) → h'.1 q = h.1 q) ∧ (∃ k, k ≤ N ∧ h'.2.1 = h.2.1 + k ∧ h'.2.2.1 = h.2.2.1 + k) ∧ h'.2.2.2 ≤ h.2.2.2 + 12 * N
theorem zz_rf {h : jx_H} : zz 0 h h := ⟨fun _ _ => rfl, ⟨0, Nat.le_refl _, rfl, rfl⟩, Nat.le_refl _⟩
theorem zz_tr {N N' : Nat} {h h' h'' : jx_H} (a : zz N h h') (b : zz N' h' h'') : zz (N + N') h h'' := by
  obtain ⟨a1, ⟨k, a2, a3, a4⟩, a5⟩ := a
  obtain ⟨b1, ⟨l, b2, b3, b4⟩, b5⟩ := b
  refine ⟨fun q hq => (b1 q (by omega)).trans (a1 q hq), ⟨k + l, by omega, by omega, by omega⟩, by omega⟩
theorem zz_wd {N N' : Nat} {h h' : jx_H} (a : zz N h h') (k : N ≤ N') : zz N' h h' := by
  obtain ⟨a1, ⟨n, a2, a3⟩, a5⟩ := a
  exact ⟨a1, ⟨n, by omega, a3⟩, by omega⟩
theorem zz_eq {h h' : jx_H} (e : mz_eq 200 711 h h') : zz 0 h h' := ⟨fun q hq => e.1 q (by omega), ⟨0, Nat.le_refl _, by rw [e.2]; rfl, by rw [e.2]; rfl⟩, by rw [e.2]; omega⟩
theorem zz_x {h : jx_H} : zz 1 h (jx_thr h) := ⟨fun _ _ => rfl, ⟨1, Nat.le_refl _, rfl, rfl⟩, by show h.2.2.2 + 6 ≤ _; omega⟩
/-- between two calls of the law -/
def lo_I (xs : List Int32) (C : cl_T) (h : jx_H) : Prop := mz_K xs h ∧ cl_I h C ∧ 711 ≤ h.2.1 ∧ h.2.1 = h.2.2.1 + 200
section LO
variable {xs : List Int32} {C : cl_T} {h h' : jx_H}
theorem lo_eq {C' : cl_T} (L : lo_I xs C h) (e : mz_eq 200 711 h h') (I : cl_I h' C') : lo_I xs C' h' :=
  ⟨fun q hq => (e.1 q (Or.inl hq)).trans (L.1 q hq), I, by rw [e.2]; exact L.2.2.1, by rw [e.2]; exact L.2.2.2⟩
theorem lo_x (L : lo_I xs C h) : lo_I xs C (jx_thr h) := ⟨L.1, cl_I_ag L.2.1 (fun _ _ _ => rfl), by show 711 ≤ h.2.1 + 1; have := L.2.2.1; omega, by show h.2.1 + 1 = h.2.2.1 + 1 + 200; have := L.2.2.2; omega⟩
/-- a call that answers v, at no more than that cost -/
def lo_V (xs : List Int32) (C : cl_T) (h : jx_H) (X : jx_R) (v : Value) (N : Nat) : Prop := ∃ h', X = some (.inl (some v), h') ∧ lo_I xs C h' ∧ zz N h h'
theorem lo_wd {X : jx_R} {v : Value} {N N' : Nat} (a : lo_V xs C h X v N) (k : N ≤ N') : lo_V xs C h X v N' := by
  obtain ⟨h', e, L, z⟩ := a
  exact ⟨h', e, L, zz_wd z k⟩
theorem lo_re {X Y : jx_R} {v : Value} {N : Nat} (a : lo_V xs C h Y v N) (e : X = Y) : lo_V xs C h X v N := by rw [e]; exact a
theorem lo_rt (L : lo_I xs C h) (v : Value) {N : Nat} : lo_V xs C h (some (.inl (some v), h)) v N := ⟨h, rfl, L, zz_wd zz_rf (Nat.zero_le _)⟩
theorem lo_cI {m : Nat} {as : List Value} {y : Int32} {v : Value} {N B : Nat} {f : Int32 → jx_H → jx_R} (a : lo_V xs C h (jx_A m as h) (.int y) N) (hB : N ≤ B) (k : ∀ h', lo_I xs C h' → lo_V xs C h' (f y h') v (B - N)) : lo_V xs C h (jx_cI jx_A m as h f) v B := by
  obtain ⟨h1, e, L, z⟩ := a
  obtain ⟨h2, e2, L2, z2⟩ := k h1 L
  exact ⟨h2, by rw [jx_cI_e e, e2], L2, zz_wd (zz_tr z z2) (by omega)⟩
theorem lo_cL {m : Nat} {as : List Value} {y : Int64} {v : Value} {N B : Nat} {f : Int64 → jx_H → jx_R} (a : lo_V xs C h (jx_A m as h) (.long y) N) (hB : N ≤ B) (k : ∀ h', lo_I xs C h' → lo_V xs C h' (f y h') v (B - N)) : lo_V xs C h (jx_cL jx_A m as h f) v B := by
  obtain ⟨h1, e, L, z⟩ := a
  obtain ⟨h2, e2, L2, z2⟩ := k h1 L
  exact ⟨h2, by rw [jx_cL_e e, e2], L2, zz_wd (zz_tr z z2) (by omega)⟩
theorem lo_is {X : jx_R} {v : Value} {N : Nat} (L : lo_I xs C h) (a : lo_V xs C h X v N) : lo_V xs C h (jx_is h 200 7 X) v N := by rw [cl_I_is L.2.1]; exact a
/-- a question of the class's own -/
theorem lo_q {X : jx_R} {sp : q_O → Prop} {v : Value} (L : lo_I xs C h) (Q : cl_Q h C X sp) (q : ∀ o, sp o → o = .inl v) : lo_V xs C h X v 0 := by
  obtain ⟨o, h1, s, e, I, t⟩ := Q
  have := q o s
  subst this
  exact ⟨h1, e, lo_eq L t I, zz_eq t⟩
/-- the same, asked by a wrapper -/
theorem lo_ok {X Y : jx_R} {sp : q_O → Prop} {u v : Value} (L : lo_I xs C h) (Q : cl_Q h C X sp) (q : ∀ o, sp o → o = .inl u) (w : ∀ h1, X = some (.inl (some u), h1) → Y = some (.inl (some v), h1)) : lo_V xs C h Y v 0 := by
  obtain ⟨o, h1, s, e, I, t⟩ := Q
  have := q o s
  subst this
  exact ⟨h1, w h1 e, lo_eq L t I, zz_eq t⟩
theorem lo_no {X Y : jx_R} {sp : q_O → Prop} {s : String} {v : Value} (L : lo_I xs C h) (Q : cl_Q h C X sp) (q : ∀ o, sp o → o = .inr s) (w : ∀ h1, X = some (.inr s, h1) → Y = some (.inl (some v), h1)) : lo_V xs C h Y v 1 := by
  obtain ⟨o, h1, s1, e, I, t⟩ := Q
  have := q o s1
  subst this
  exact ⟨jx_thr h1, w _ e, lo_x (lo_eq L t I), (Nat.zero_add 1) ▸ zz_tr (zz_eq t) zz_x⟩
/-- plain answers -/
theorem lo_p {X : jx_R} {v : Value} (L : lo_I xs C h) (e : X = some (.inl (some v), h)) : lo_V xs C h X v 0 := ⟨h, e, L, zz_rf⟩
theorem lo_pe {X : jx_R} {v : Value} (L : lo_I xs C h) (e : ∃ h', X = some (.inl (some v), h') ∧ cl_I h' C ∧ mz_eq 200 711 h h') : lo_V xs C h X v 0 := by
  obtain ⟨h1, e, I, t⟩ := e
  exact ⟨h1, e, lo_eq L t I, zz_eq t⟩
end LO
end JX
