/-! Rows of the law's own: what lies below a place stays. -/
section JX
def zb (b N : Nat) (h h' : jx_H) : Prop := (∀ q, (q < 200 ∨ (711 ≤ q ∧ q < b)) → h'.1 q = h.1 q) ∧ (∃ k, k ≤ N ∧ h'.2.1 = h.2.1 + k ∧ h'.2.2.1 = h.2.2.1 + k) ∧ h'.2.2.2 ≤ h.2.2.2 + 12 * N
theorem zb_zz {N : Nat} {h h' : jx_H} (a : zb h.2.1 N h h') : zz N h h' := a
theorem zb_of {b N : Nat} {h h' : jx_H} (a : zz N h h') (hb : b ≤ h.2.1) : zb b N h h' := ⟨fun q hq => a.1 q (by omega), a.2⟩
theorem zb_rf {b : Nat} {h : jx_H} : zb b 0 h h := ⟨fun _ _ => rfl, ⟨0, Nat.le_refl _, rfl, rfl⟩, Nat.le_refl _⟩
theorem zb_tr {b N N' : Nat} {h h' h'' : jx_H} (a : zb b N h h') (k : zb b N' h' h'') : zb b (N + N') h h'' := by
  obtain ⟨a1, ⟨l, a2, a3, a4⟩, a5⟩ := a
  obtain ⟨b1, ⟨m, b2, b3, b4⟩, b5⟩ := k
  exact ⟨fun q hq => (b1 q hq).trans (a1 q hq), ⟨l + m, by omega, by omega, by omega⟩, by omega⟩
theorem zb_wd {b b' N N' : Nat} {h h' : jx_H} (a : zb b N h h') (k : N ≤ N') (hb : b' ≤ b) : zb b' N' h h' := by
  obtain ⟨a1, ⟨n, a2, a3⟩, a5⟩ := a
  exact ⟨fun q hq => a1 q (by omega), ⟨n, by omega, a3⟩, by omega⟩
theorem zb_up {b N : Nat} {h h' : jx_H} (a : zb b N h h') : h.2.1 ≤ h'.2.1 := by
  obtain ⟨-, ⟨k, -, e, -⟩, -⟩ := a
  omega
theorem zb_set {b A : Nat} {h : jx_H} {o : jx_Ob} (hb : b ≤ A) (hA : 711 ≤ A) : zb b 0 h (jx_set h A o) := ⟨fun q hq => mz_set_n (by omega), ⟨0, Nat.le_refl _, rfl, rfl⟩, Nat.le_refl _⟩
theorem zb_add {b n N : Nat} {h : jx_H} {o : jx_Ob} (hb : b ≤ h.2.1) (h7 : 711 ≤ h.2.1) (h1 : 1 ≤ N) (hn : n ≤ 12 * N) : zb b N h (jx_add h o n) := by
  refine ⟨fun q hq => ?_, ⟨1, h1, rfl, rfl⟩, by show h.2.2.2 + n ≤ _; omega⟩
  show (bif q == h.2.1 then some o else h.1 q) = _
  rw [beq_eq_false_iff_ne.mpr (show q ≠ h.2.1 by omega)]; rfl
/-- a row or an object of the law's own -/
def ra (A : Nat) (o : jx_Ob) (h : jx_H) : Prop := 711 ≤ A ∧ A < h.2.1 ∧ h.1 A = some o
theorem ra_z {A N : Nat} {o : jx_Ob} {h h' : jx_H} (R : ra A o h) (z : zz N h h') : ra A o h' := ⟨R.1, by have := zb_up (b := h.2.1) z; have := R.2.1; omega, (z.1 A (Or.inr ⟨R.1, R.2.1⟩)).trans R.2.2⟩
theorem ra_b {A b N : Nat} {o : jx_Ob} {h h' : jx_H} (R : ra A o h) (z : zb b N h h') (hb : A < b) : ra A o h' := ⟨R.1, by have := zb_up z; have := R.2.1; omega, (z.1 A (Or.inr ⟨R.1, hb⟩)).trans R.2.2⟩
theorem ra_set {A : Nat} {o o' : jx_Ob} {h : jx_H} (R : ra A o h) : ra A o' (jx_set h A o') := ⟨R.1, R.2.1, mz_set_e⟩
theorem ra_setn {A B : Nat} {o o' : jx_Ob} {h : jx_H} (R : ra A o h) (e : A ≠ B) : ra A o (jx_set h B o') := ⟨R.1, R.2.1, by rw [mz_set_n e]; exact R.2.2⟩
theorem ra_add {h : jx_H} {o : jx_Ob} {n : Nat} (h7 : 711 ≤ h.2.1) : ra h.2.1 o (jx_add h o n) := ⟨h7, Nat.lt_succ_self _, by show (bif h.2.1 == h.2.1 then some o else _) = _; rw [beq_self_eq_true]; rfl⟩
theorem ra_addn {A : Nat} {h : jx_H} {o o' : jx_Ob} {n : Nat} (R : ra A o h) : ra A o (jx_add h o' n) := ⟨R.1, Nat.lt_succ_of_lt R.2.1, by
  show (bif A == h.2.1 then some o' else h.1 A) = _
  rw [beq_eq_false_iff_ne.mpr (show A ≠ h.2.1 by have := R.2.1; omega)]; exact R.2.2⟩
section LO
variable {xs : List Int32} {C : cl_T} {h : jx_H}
theorem lo_set {A : Nat} {o : jx_Ob} (L : lo_I xs C h) (hA : 711 ≤ A) : lo_I xs C (jx_set h A o) := ⟨fun q hq => by rw [mz_set_n (show q ≠ A by have : q < 200 := hq; omega)]; exact L.1 q hq, cl_I_ag L.2.1 (fun q _ h2 => mz_set_n (by omega)), L.2.2.1, L.2.2.2⟩
theorem lo_add {o : jx_Ob} {n : Nat} (L : lo_I xs C h) : lo_I xs C (jx_add h o n) := by
  have h7 := L.2.2.1
  have e : ∀ q, q < 711 → (jx_add h o n).1 q = h.1 q := fun q hq => by
    show (bif q == h.2.1 then some o else h.1 q) = _
    rw [beq_eq_false_iff_ne.mpr (show q ≠ h.2.1 by omega)]; rfl
  exact ⟨fun q hq => (e q (by have : q < 200 := hq; omega)).trans (L.1 q hq), cl_I_ag L.2.1 (fun q _ h2 => e q h2), by show 711 ≤ h.2.1 + 1; omega, by show h.2.1 + 1 = h.2.2.1 + 1 + 200; have := L.2.2.2; omega⟩
/-- a call that answers v and keeps what lies below b -/
def lo_W (b : Nat) (xs : List Int32) (C : cl_T) (h : jx_H) (X : jx_R) (v : Value) (N : Nat) : Prop := ∃ h', X = some (.inl (some v), h') ∧ lo_I xs C h' ∧ zb b N h h'
theorem lo_Vb {X : jx_R} {v : Value} {N : Nat} (a : lo_W h.2.1 xs C h X v N) : lo_V xs C h X v N := a
theorem lw_wd {b : Nat} {X : jx_R} {v : Value} {N N' : Nat} (a : lo_W b xs C h X v N) (k : N ≤ N') : lo_W b xs C h X v N' := by
  obtain ⟨h', e, L, z⟩ := a
  exact ⟨h', e, L, zb_wd z k (Nat.le_refl _)⟩
theorem lw_rt {b : Nat} (L : lo_I xs C h) (v : Value) {N : Nat} : lo_W b xs C h (some (.inl (some v), h)) v N := ⟨h, rfl, L, zb_wd zb_rf (Nat.zero_le _) (Nat.le_refl _)⟩
theorem lw_cI {b m : Nat} {as : List Value} {y : Int32} {v : Value} {N B : Nat} {f : Int32 → jx_H → jx_R} (a : lo_V xs C h (jx_A m as h) (.int y) N) (hb : b ≤ h.2.1) (hB : N ≤ B) (k : ∀ h', lo_I xs C h' → zz N h h' → lo_W b xs C h' (f y h') v (B - N)) : lo_W b xs C h (jx_cI jx_A m as h f) v B := by
  obtain ⟨h1, e, L, z⟩ := a
  obtain ⟨h2, e2, L2, z2⟩ := k h1 L z
  exact ⟨h2, by rw [jx_cI_e e, e2], L2, zb_wd (zb_tr (zb_of z hb) z2) (by omega) (Nat.le_refl _)⟩
theorem lw_cL {b m : Nat} {as : List Value} {y : Int64} {v : Value} {N B : Nat} {f : Int64 → jx_H → jx_R} (a : lo_V xs C h (jx_A m as h) (.long y) N) (hb : b ≤ h.2.1) (hB : N ≤ B) (k : ∀ h', lo_I xs C h' → zz N h h' → lo_W b xs C h' (f y h') v (B - N)) : lo_W b xs C h (jx_cL jx_A m as h f) v B := by
  obtain ⟨h1, e, L, z⟩ := a
  obtain ⟨h2, e2, L2, z2⟩ := k h1 L z
  exact ⟨h2, by rw [jx_cL_e e, e2], L2, zb_wd (zb_tr (zb_of z hb) z2) (by omega) (Nat.le_refl _)⟩
theorem lw_is {b : Nat} {X : jx_R} {v : Value} {N : Nat} (L : lo_I xs C h) (a : lo_W b xs C h X v N) : lo_W b xs C h (jx_is h 200 7 X) v N := by rw [cl_I_is L.2.1]; exact a
theorem lw_set {b A : Nat} {o : jx_Ob} {X : jx_R} {v : Value} {N : Nat} (hb : b ≤ A) (hA : 711 ≤ A) (a : lo_W b xs C (jx_set h A o) X v N) : lo_W b xs C h X v N := by
  obtain ⟨h2, e2, L2, z2⟩ := a
  exact ⟨h2, e2, L2, zb_wd (zb_tr (zb_set hb hA) z2) (by omega) (Nat.le_refl _)⟩
/-- a loop of the law over a row of its own -/
theorem lw_lp {b : Nat} {γ : Type} (E : Nat → γ → jx_H → jx_R) (n : Nat) (N N0 : Nat) (v : Value) (I : Nat → γ → jx_H → Prop)
    (h0 : ∀ g h, I n g h → lo_I xs C h → lo_W b xs C h (E n g h) v N0)
    (hs : ∀ i g h B, i < n → I i g h → lo_I xs C h → (∀ g' h', I (i + 1) g' h' → lo_I xs C h' → lo_W b xs C h' (E (i + 1) g' h') v B) → lo_W b xs C h (E i g h) v (N + B)) :
    ∀ i g h, i ≤ n → I i g h → lo_I xs C h → lo_W b xs C h (E i g h) v (n * N + N0) := by
  have key : ∀ (k i : Nat) (g : γ) (h : jx_H), i + k = n → I i g h → lo_I xs C h → lo_W b xs C h (E i g h) v (k * N + N0) := by
    intro k
    induction k with
    | zero => intro i g h e hI L; have : i = n := by omega
              subst this; rw [Nat.zero_mul, Nat.zero_add]; exact h0 g h hI L
    | succ k ih =>
      intro i g h e hI L
      refine lw_wd (hs i g h (k * N + N0) (by omega) hI L (fun g' h' I' L' => ih (i + 1) g' h' (by omega) I' L')) ?_
      rw [Nat.add_mul, Nat.one_mul]; omega
  intro i g h hi hI L
  refine lw_wd (key (n - i) i g h (by omega) hI L) ?_
  have : (n - i) * N ≤ n * N := Nat.mul_le_mul_right _ (by omega)
  omega
end LO
end JX
