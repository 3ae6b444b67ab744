/-! Making the class's object. -/
section JX
/-- so many addresses and cells are used -/
def cn_2 (h : jx_H) (a c : Nat) : Prop := h.2 = (a, a - 200, c) ∧ 200 ≤ a
def fg_0 : fg_T := (0, 0, 0, 0, 0, 0, 0, 0)
theorem fg_0_ok : fg_ok fg_0 := ⟨by decide, by decide, fun k => by
  unfold fg_ed fg_0
  repeat' split
  all_goals decide, by decide, by decide⟩
def mm_0 : mm_T := (0, 0, fun _ => fg_0, fun _ => none)
section CN
variable {h : jx_H} {a c : Nat}
theorem cn_1 (S : cn_2 h a c) : h.2.1 = a := by rw [S.1]
theorem cn_b (S : cn_2 h a c) : h.2.1 = h.2.2.1 + jx_nc := by
  have := S.2
  rw [S.1]
  show a = a - 200 + 200
  omega
theorem cn_add (S : cn_2 h a c) (o : jx_Ob) (n : Nat) : cn_2 (jx_add h o n) (a + 1) (c + n) := by
  have := S.2
  refine ⟨?_, by omega⟩
  show (h.2.1 + 1, h.2.2.1 + 1, h.2.2.2 + n) = _
  rw [S.1, show a + 1 - 200 = a - 200 + 1 by omega]
theorem cn_add_e (S : cn_2 h a c) {o : jx_Ob} {n : Nat} : (jx_add h o n).1 a = some o := by
  show (bif a == h.2.1 then some o else h.1 a) = _
  rw [cn_1 S, beq_self_eq_true]; rfl
theorem cn_add_n (S : cn_2 h a c) {o : jx_Ob} {n q : Nat} (e : q ≠ a) : (jx_add h o n).1 q = h.1 q := by
  show (bif q == h.2.1 then some o else h.1 q) = _
  rw [cn_1 S, beq_false_of_ne e]; rfl
theorem cn_obj (S : cn_2 h a c) {t n : Nat} {fs : List Value} (F : jx_R) : (if h.2.1 = h.2.2.1 + jx_nc then jx_is (jx_add h (t, fs) n) h.2.1 t F else none) = F := by
  rw [if_pos (cn_b S), jx_is_e (by rw [cn_1 S]; exact cn_add_e S)]
theorem cn_arr (S : cn_2 h a c) {t v0 ty k : Nat} {n : Int32} {v : Value} {fs : List Value} (hn : 0 ≤ n ∧ n ≤ 4096) (h1 : h.1 v0 = some (ty, fs)) (h2 : jx_nc ≤ v0) (h3 : v0 < a) (h4 : k < fs.length) :
    ∃ h', (∀ f : jx_H → jx_R, (if 0 ≤ n ∧ n ≤ 4096 ∧ h.2.1 = h.2.2.1 + jx_nc then jx_is (jx_add h (t, List.replicate n.toNatClampNeg v) n.toNatClampNeg) h.2.1 t (jx_pt (jx_add h (t, List.replicate n.toNatClampNeg v) n.toNatClampNeg) v0 ty k (.ref h.2.1) f) else none) = f h') ∧
      cn_2 h' (a + 1) (c + n.toNatClampNeg) ∧ h'.1 v0 = some (ty, fs.set k (.ref a)) ∧ h'.1 a = some (t, mz_ar n.toNatClampNeg (fun _ => v)) ∧ (∀ q, q ≠ v0 → q ≠ a → h'.1 q = h.1 q) := by
  refine ⟨jx_set (jx_add h (t, List.replicate n.toNatClampNeg v) n.toNatClampNeg) v0 (ty, fs.set k (.ref a)), fun f => ?_, cn_add S (t, List.replicate n.toNatClampNeg v) n.toNatClampNeg, mz_set_e, ?_, fun q q1 q2 => ?_⟩
  · rw [if_pos ⟨hn.1, hn.2, cn_b S⟩, jx_is_e (by rw [cn_1 S]; exact cn_add_e S), cn_1 S, jx_pt_e ((cn_add_n S (by omega)).trans h1) h2 h4]
  · rw [mz_set_n (by omega), ← mz_ar_rep]; exact cn_add_e S
  · rw [mz_set_n q1]; exact cn_add_n S q2
/-- a fragment is made -/
theorem cn_20 (S : cn_2 h (a + 1) c) (h1 : h.1 a = some (2, [.int 0, .int 0, .null, .int 0, .int 0])) (ha : jx_nc ≤ a) :
    ∃ h', jx_A 20 [.ref a] h = some (.inl none, h') ∧ cn_2 h' (a + 2) (c + 4) ∧ h'.1 a = some (fg_O a fg_0) ∧ h'.1 (a + 1) = some (fg_E fg_0) ∧ ∀ q, q ≠ a → q ≠ a + 1 → h'.1 q = h.1 q := by
  obtain ⟨h2, x2, S2, k1, k2, k3⟩ := cn_arr S (t := 100) (v := .int 0) (n := 4) (k := 2) (by decide) h1 ha (by omega) (by decide)
  refine ⟨jx_set h2 a (2, [.int 0, .int 0, .ref (a + 1), .int 0, .int (-1)]), ?_, S2, mz_set_e, ?_, fun q q1 q2 => ?_⟩
  · rw [a_20, x2, jx_pt_e k1 ha (by show 4 < 5; decide)]; rfl
  · rw [mz_set_n (by omega)]; exact k2
  · rw [mz_set_n q1]; exact k3 q q1 q2
/-- a board -/
theorem cn_0 (S : cn_2 h (a + 1) c) (h1 : h.1 a = some (0, [.null, .null, .int 0, .int 0])) (ha : jx_nc ≤ a) :
    ∃ h', jx_A 0 [.ref a] h = some (.inl none, h') ∧ cn_2 h' (a + 43) (c + 264) ∧ bd_I h' a 0 0 (fun k => k) (fun _ => fg_0) (fun _ => none) ∧ ∀ q, q < a ∨ a + 43 ≤ q → h'.1 q = h.1 q := by
  obtain ⟨h2, x2, S2, k1, k2, k3⟩ := cn_arr S (t := 111) (v := .null) (n := 20) (k := 0) (by decide) h1 ha (by omega) (by decide)
  obtain ⟨h3, x3, S3, l1, l2, l3⟩ := cn_arr S2 (t := 111) (v := .null) (n := 64) (k := 1) (by decide) k1 ha (by omega) (show 1 < 4 by decide)
  have l4 : h3.1 (a + 1) = some (111, mz_ar 20 (fun _ => .null)) := (l3 (a + 1) (by omega) (by omega)).trans k2
  rw [a_0, x2, x3]
  refine mz_inv (γ := jx_H) (fun i z => jx_E 0 24 [.ref a, .int (nI i)] [] z)
    (fun i z => cn_2 z (a + 3 + 2 * i) (c + 84 + 9 * i) ∧ z.1 a = some (0, [.ref (a + 1), .ref (a + 2), .int 0, .int 0]) ∧ z.1 (a + 1) = some (111, mz_ar 20 (fun k => if k < i then .ref (bd_f a k) else .null)) ∧ z.1 (a + 2) = some (111, mz_ar 64 (fun _ => .null)) ∧
      (∀ j, j < i → z.1 (bd_f a j) = some (fg_O (bd_f a j) fg_0) ∧ z.1 (bd_f a j + 1) = some (fg_E fg_0)) ∧ ∀ q, q < a ∨ a + 3 + 2 * i ≤ q → z.1 q = h.1 q) 20
    (fun X => ∃ h', X = some (.inl none, h') ∧ cn_2 h' (a + 43) (c + 264) ∧ bd_I h' a 0 0 (fun k => k) (fun _ => fg_0) (fun _ => none) ∧ ∀ q, q < a ∨ a + 43 ≤ q → h'.1 q = h.1 q) ?_ ?_ 0 h3 (by decide) ⟨S3, l1, ?_, l2, fun j hj => absurd hj (Nat.not_lt_zero _), fun q hq => (l3 q (by omega) (by omega)).trans (k3 q (by omega) (by omega))⟩
  · rintro z ⟨i1, i2, i3, i4, i5, i6⟩
    refine ⟨z, by rw [b_0_24, if_pos (by decide)], i1, ⟨i2, ?_, i4, fun i hi => ⟨(i5 i hi).1, (i5 i hi).2, fg_0_ok⟩, by decide, by decide, fun k hk => hk, fun c i _ e => (by cases e), ha⟩, i6⟩
    exact i3.trans (congrArg (fun l => some (111, l)) (mz_ar_cong fun k hk => if_pos hk))
  · rintro i z hi ⟨i1, i2, i3, i4, i5, i6⟩
    right
    have T := cn_add i1 (2, [.int 0, .int 0, .null, .int 0, .int 0]) 5
    obtain ⟨u, x, U, u1, u2, u3⟩ := cn_20 T (cn_add_e i1) (by omega)
    have e1 : u.1 (a + 1) = some (111, mz_ar 20 (fun k => if k < i then .ref (bd_f a k) else .null)) := (u3 _ (by omega) (by omega)).trans ((cn_add_n i1 (by omega)).trans i3)
    refine ⟨jx_set u (a + 1) (111, mz_ar 20 (fun k => if k = i then .ref (bd_f a i) else (if k < i then .ref (bd_f a k) else .null))), ⟨?_, ?_, ?_, ?_, fun j hj => ?_, fun q hq => ?_⟩, ?_⟩
    · rw [show a + 3 + 2 * (i + 1) = a + 3 + 2 * i + 2 by omega, show c + 84 + 9 * (i + 1) = c + 84 + 9 * i + 5 + 4 by omega]; exact U
    · rw [mz_set_n (by omega)]; exact (u3 _ (by omega) (by omega)).trans ((cn_add_n i1 (by omega)).trans i2)
    · rw [mz_set_e]
      congr 2
      refine mz_ar_cong fun k hk => ?_
      by_cases e : k = i
      · subst e; rw [if_pos rfl, if_pos (Nat.lt_succ_self _)]
      · rw [if_neg e]
        by_cases e2 : k < i
        · rw [if_pos e2, if_pos (by omega)]
        · rw [if_neg e2, if_neg (by omega)]
    · rw [mz_set_n (by omega)]; exact (u3 _ (by omega) (by omega)).trans ((cn_add_n i1 (by omega)).trans i4)
    · have ej : bd_f a j = a + 3 + 2 * j := rfl
      by_cases e : j = i
      · subst e
        rw [mz_set_n (by omega), mz_set_n (by omega)]
        exact ⟨u1, u2⟩
      · have := i5 j (by omega)
        rw [mz_set_n (by omega), mz_set_n (by omega)]
        exact ⟨(u3 _ (by omega) (by omega)).trans ((cn_add_n i1 (by omega)).trans this.1), (u3 _ (by omega) (by omega)).trans ((cn_add_n i1 (by omega)).trans this.2)⟩
    · rw [mz_set_n (by omega)]
      exact (u3 _ (by omega) (by omega)).trans ((cn_add_n i1 (by omega)).trans (i6 q (by omega)))
    · show jx_E 0 24 _ _ _ = jx_E 0 24 _ _ _
      have x' : jx_A 20 [.ref z.2.1] (jx_add z (2, [.int 0, .int 0, .null, .int 0, .int 0]) 5) = some (.inl none, u) := by rw [cn_1 i1]; exact x
      rw [b_0_24, if_neg (show ¬ 20 ≤ nI i from nI_ge (b := 20) hi (by decide)), jx_gA_e i2 rfl, cn_obj i1, jx_cV_e x', cn_1 i1, jx_is_e u1, mz_st e1 (by omega) hi (by decide), nI_1]
      rfl
  · exact l4.trans (congrArg (fun l => some (111, l)) (mz_ar_cong fun k hk => (if_neg (Nat.not_lt_zero _)).symm))
/-- the boards of the past -/
theorem cn_42 (S : cn_2 h (a + 1) c) (h1 : h.1 a = some (5, [.null, .int 0, .int 0])) (ha : jx_nc ≤ a) :
    ∃ h', jx_A 42 [.ref a] h = some (.inl none, h') ∧ cn_2 h' (a + 389) (c + 2421) ∧ hs_I h' a 0 0 ∧ (∀ k, k < 9 → bd_V h' (a + 2 + 43 * k)) ∧ ∀ q, q < a ∨ a + 389 ≤ q → h'.1 q = h.1 q := by
  obtain ⟨h2, x2, S2, k1, k2, k3⟩ := cn_arr S (t := 110) (v := .null) (n := 9) (k := 0) (by decide) h1 ha (by omega) (by decide)
  rw [a_42, x2]
  refine mz_inv (γ := jx_H) (fun i z => jx_E 42 15 [.ref a, .int (nI i)] [] z)
    (fun i z => cn_2 z (a + 2 + 43 * i) (c + 9 + 268 * i) ∧ z.1 a = some (5, [.ref (a + 1), .int 0, .int 0]) ∧ z.1 (a + 1) = some (110, mz_ar 9 (fun k => if k < i then .ref (a + 2 + 43 * k) else .null)) ∧ (∀ j, j < i → bd_V z (a + 2 + 43 * j)) ∧ ∀ q, q < a ∨ a + 2 + 43 * i ≤ q → z.1 q = h.1 q) 9
    (fun X => ∃ h', X = some (.inl none, h') ∧ cn_2 h' (a + 389) (c + 2421) ∧ hs_I h' a 0 0 ∧ (∀ k, k < 9 → bd_V h' (a + 2 + 43 * k)) ∧ ∀ q, q < a ∨ a + 389 ≤ q → h'.1 q = h.1 q) ?_ ?_ 0 h2 (by decide) ⟨S2, k1, ?_, fun j hj => absurd hj (Nat.not_lt_zero _), fun q hq => k3 q (by omega) (by omega)⟩
  · rintro z ⟨i1, i2, i3, i4, i5⟩
    exact ⟨z, by rw [b_42_15, if_pos (by decide)], i1, ⟨i2, i3.trans (congrArg (fun l => some (110, l)) (mz_ar_cong fun k hk => if_pos hk)), by decide, by decide, ha⟩, i4, i5⟩
  · rintro i z hi ⟨i1, i2, i3, i4, i5⟩
    right
    have T := cn_add i1 (0, [.null, .null, .int 0, .int 0]) 4
    obtain ⟨u, x, U, u1, u2⟩ := cn_0 T (cn_add_e i1) (by omega)
    have e1 : u.1 (a + 1) = some (110, mz_ar 9 (fun k => if k < i then .ref (a + 2 + 43 * k) else .null)) := (u2 _ (by omega)).trans ((cn_add_n i1 (by omega)).trans i3)
    refine ⟨jx_set u (a + 1) (110, mz_ar 9 (fun k => if k = i then .ref (a + 2 + 43 * i) else (if k < i then .ref (a + 2 + 43 * k) else .null))), ⟨?_, ?_, ?_, fun j hj => ?_, fun q hq => ?_⟩, ?_⟩
    · rw [show a + 2 + 43 * (i + 1) = a + 2 + 43 * i + 43 by omega, show c + 9 + 268 * (i + 1) = c + 9 + 268 * i + 4 + 264 by omega]; exact U
    · rw [mz_set_n (by omega)]; exact (u2 _ (by omega)).trans ((cn_add_n i1 (by omega)).trans i2)
    · rw [mz_set_e]
      congr 2
      refine mz_ar_cong fun k hk => ?_
      by_cases e : k = i
      · subst e; rw [if_pos rfl, if_pos (Nat.lt_succ_self _)]
      · rw [if_neg e]
        by_cases e2 : k < i
        · rw [if_pos e2, if_pos (by omega)]
        · rw [if_neg e2, if_neg (by omega)]
    · by_cases e : j = i
      · subst e
        exact bd_V_ag ⟨_, _, _, _, _, u1, fun _ _ _ _ e => e⟩ (fun q _ _ => mz_set_n (by omega))
      · exact bd_V_ag (i4 j (by omega)) (fun q _ _ => (mz_set_n (by omega)).trans ((u2 _ (by omega)).trans (cn_add_n i1 (by omega))))
    · rw [mz_set_n (by omega)]
      exact (u2 _ (by omega)).trans ((cn_add_n i1 (by omega)).trans (i5 q (by omega)))
    · show jx_E 42 15 _ _ _ = jx_E 42 15 _ _ _
      have x' : jx_A 0 [.ref z.2.1] (jx_add z (0, [.null, .null, .int 0, .int 0]) 4) = some (.inl none, u) := by rw [cn_1 i1]; exact x
      rw [b_42_15, if_neg (show ¬ 9 ≤ nI i from nI_ge (b := 9) hi (by decide)), jx_gA_e i2 rfl, cn_obj i1, jx_cV_e x', cn_1 i1, bd_is u1, mz_st e1 (by omega) hi (by decide), nI_1]
  · exact k2.trans (congrArg (fun l => some (110, l)) (mz_ar_cong fun k hk => (if_neg (Nat.not_lt_zero _)).symm))
/-- the guesses -/
theorem cn_31 (S : cn_2 h (a + 1) c) (h1 : h.1 a = some (4, [.null, .null, .null, .int 0])) (ha : jx_nc ≤ a) :
    ∃ h', jx_A 31 [.ref a] h = some (.inl none, h') ∧ cn_2 h' (a + 4) (c + 28) ∧ gs_V h' a ∧ ∀ q, q < a ∨ a + 4 ≤ q → h'.1 q = h.1 q := by
  obtain ⟨h2, x2, S2, k1, k2, k3⟩ := cn_arr S (t := 100) (v := .int 0) (n := 4) (k := 0) (by decide) h1 ha (by omega) (by decide)
  obtain ⟨h3, x3, S3, l1, l2, l3⟩ := cn_arr S2 (t := 101) (v := .int 0) (n := 4) (k := 1) (by decide) k1 ha (by omega) (show 1 < 4 by decide)
  obtain ⟨h4, x4, S4, m1, m2, m3⟩ := cn_arr S3 (t := 100) (v := .int 0) (n := 20) (k := 2) (by decide) l1 ha (by omega) (show 2 < 4 by decide)
  refine ⟨h4, by rw [a_31, x2, x3, x4], S4, ⟨fun _ => 0, fun _ => 0, fun _ => 0, 0, m1, (m3 _ (by omega) (by omega)).trans ((l3 _ (by omega) (by omega)).trans k2), (m3 _ (by omega) (by omega)).trans l2, m2, ha⟩, fun q hq => (m3 q (by omega) (by omega)).trans ((l3 q (by omega) (by omega)).trans (k3 q (by omega) (by omega)))⟩
/-- the groups -/
theorem cn_24 (S : cn_2 h (a + 1) c) (h1 : h.1 a = some (3, [.null, .null])) (ha : jx_nc ≤ a) :
    ∃ h', jx_A 24 [.ref a] h = some (.inl none, h') ∧ cn_2 h' (a + 3) (c + 84) ∧ gu_V h' a ∧ ∀ q, q < a ∨ a + 3 ≤ q → h'.1 q = h.1 q := by
  obtain ⟨h2, x2, S2, k1, k2, k3⟩ := cn_arr S (t := 111) (v := .null) (n := 20) (k := 0) (by decide) h1 ha (by omega) (by decide)
  obtain ⟨h3, x3, S3, l1, l2, l3⟩ := cn_arr S2 (t := 100) (v := .int 0) (n := 64) (k := 1) (by decide) k1 ha (by omega) (show 1 < 2 by decide)
  exact ⟨h3, by rw [a_24, x2, x3], S3, ⟨fun _ => .null, fun _ => 0, l1, (l3 _ (by omega) (by omega)).trans k2, l2, ha⟩, fun q hq => (l3 q (by omega) (by omega)).trans (k3 q (by omega) (by omega))⟩
/-- a command -/
theorem cn_19 {xs : List Int32} (K : mz_K xs h) (S : cn_2 h (a + 1) c) (h1 : h.1 a = some (1, [.null, .null])) (ha : jx_nc ≤ a) :
    ∃ h', jx_A 19 [.ref a] h = some (.inl none, h') ∧ cn_2 h' (a + 2) (c + 5) ∧ h'.1 a = some (1, [.ref 9, .ref (a + 1)]) ∧ h'.1 (a + 1) = some (100, mz_ar 5 (fun _ => .int 0)) ∧ ∀ q, q ≠ a → q ≠ a + 1 → h'.1 q = h.1 q := by
  have k9 : h.1 9 = some (21, [.int 5, .ref 21, .ref 22]) := K 9 (by decide)
  have e0 : (jx_set h a (1, [.ref 9, .null])).1 a = some (1, [.ref 9, .null]) := mz_set_e
  obtain ⟨h2, x2, S2, k1, k2, k3⟩ := cn_arr (h := jx_set h a (1, [.ref 9, .null])) (a := a + 1) (c := c) S (t := 100) (v := .int 0) (n := 5) (k := 1) (by decide) e0 ha (by omega) (by decide)
  refine ⟨h2, ?_, S2, k1, k2, fun q q1 q2 => (k3 q q1 q2).trans (mz_set_n q1)⟩
  rw [a_19, jx_is_e k9, jx_pt_e h1 ha (by decide)]
  exact x2 (fun h2 => some (.inl none, h2))
/-- the input -/
theorem cn_48 {xs : List Int32} (K : mz_K xs h) (S : cn_2 h (a + 1) c) (h1 : h.1 a = some (6, [.null, .int 0, .int 0, .null, .int 0])) (ha : jx_nc ≤ a) :
    ∃ h', jx_A 48 [.ref a] h = some (.inl none, h') ∧ cn_2 h' (a + 27) (c + 156) ∧ sc_I h' a 0 0 0 (fun _ => 0) (fun _ => 9) (fun _ _ => 0) ∧ ∀ q, q < a ∨ a + 27 ≤ q → h'.1 q = h.1 q := by
  obtain ⟨h2, x2, S2, k1, k2, k3⟩ := cn_arr S (t := 101) (v := .int 0) (n := 60) (k := 0) (by decide) h1 ha (by omega) (by decide)
  obtain ⟨h3, x3, S3, l1, l2, l3⟩ := cn_arr S2 (t := 112) (v := .null) (n := 12) (k := 3) (by decide) k1 ha (by omega) (show 3 < 5 by decide)
  rw [a_48, x2, x3]
  refine mz_inv (γ := jx_H) (fun i z => jx_E 48 23 [.ref a, .int (nI i)] [] z)
    (fun i z => cn_2 z (a + 3 + 2 * i) (c + 72 + 7 * i) ∧ z.1 a = some (6, [.ref (a + 1), .int 0, .int 0, .ref (a + 2), .int 0]) ∧ z.1 (a + 1) = some (101, mz_ar 60 (fun _ => .int 0)) ∧ z.1 (a + 2) = some (112, mz_ar 12 (fun k => if k < i then .ref (a + 3 + 2 * k) else .null)) ∧
      (∀ j, j < i → z.1 (a + 3 + 2 * j) = some (1, [.ref 9, .ref (a + 4 + 2 * j)]) ∧ z.1 (a + 4 + 2 * j) = some (100, mz_ar 5 (fun _ => .int 0))) ∧ ∀ q, q < a ∨ a + 3 + 2 * i ≤ q → z.1 q = h.1 q) 12
    (fun X => ∃ h', X = some (.inl none, h') ∧ cn_2 h' (a + 27) (c + 156) ∧ sc_I h' a 0 0 0 (fun _ => 0) (fun _ => 9) (fun _ _ => 0) ∧ ∀ q, q < a ∨ a + 27 ≤ q → h'.1 q = h.1 q) ?_ ?_ 0 h3 (by decide) ⟨S3, l1, (l3 _ (by omega) (by omega)).trans k2, ?_, fun j hj => absurd hj (Nat.not_lt_zero _), fun q hq => (l3 q (by omega) (by omega)).trans (k3 q (by omega) (by omega))⟩
  · rintro z ⟨i1, i2, i3, i4, i5, i6⟩
    exact ⟨z, by rw [b_48_23, if_pos (by decide)], i1, ⟨i2, i3, i4.trans (congrArg (fun l => some (112, l)) (mz_ar_cong fun k hk => if_pos hk)), fun i hi => ⟨(i5 i hi).1, (i5 i hi).2, (by decide : 4 ≤ 9), (by decide : 9 ≤ 10)⟩, fun _ => (by decide : 0 < 65536), by decide, by decide, by decide, ha⟩, i6⟩
  · rintro i z hi ⟨i1, i2, i3, i4, i5, i6⟩
    right
    have T := cn_add i1 (1, [.null, .null]) 2
    have KT : mz_K xs (jx_add z (1, [.null, .null]) 2) := fun q hq => (cn_add_n i1 (by omega)).trans ((i6 q (by omega)).trans (K q hq))
    obtain ⟨u, x, U, u1, u2, u3⟩ := cn_19 KT T (cn_add_e i1) (by omega)
    have e1 : u.1 (a + 2) = some (112, mz_ar 12 (fun k => if k < i then .ref (a + 3 + 2 * k) else .null)) := (u3 _ (by omega) (by omega)).trans ((cn_add_n i1 (by omega)).trans i4)
    refine ⟨jx_set u (a + 2) (112, mz_ar 12 (fun k => if k = i then .ref (a + 3 + 2 * i) else (if k < i then .ref (a + 3 + 2 * k) else .null))), ⟨?_, ?_, ?_, ?_, fun j hj => ?_, fun q hq => ?_⟩, ?_⟩
    · rw [show a + 3 + 2 * (i + 1) = a + 3 + 2 * i + 2 by omega, show c + 72 + 7 * (i + 1) = c + 72 + 7 * i + 2 + 5 by omega]; exact U
    · rw [mz_set_n (by omega)]; exact (u3 _ (by omega) (by omega)).trans ((cn_add_n i1 (by omega)).trans i2)
    · rw [mz_set_n (by omega)]; exact (u3 _ (by omega) (by omega)).trans ((cn_add_n i1 (by omega)).trans i3)
    · rw [mz_set_e]
      congr 2
      refine mz_ar_cong fun k hk => ?_
      by_cases e : k = i
      · subst e; rw [if_pos rfl, if_pos (Nat.lt_succ_self _)]
      · rw [if_neg e]
        by_cases e2 : k < i
        · rw [if_pos e2, if_pos (by omega)]
        · rw [if_neg e2, if_neg (by omega)]
    · by_cases e : j = i
      · subst e
        rw [mz_set_n (by omega), mz_set_n (by omega), show a + 4 + 2 * j = a + 3 + 2 * j + 1 by omega]
        exact ⟨u1, u2⟩
      · have := i5 j (by omega)
        rw [mz_set_n (by omega), mz_set_n (by omega)]
        exact ⟨(u3 _ (by omega) (by omega)).trans ((cn_add_n i1 (by omega)).trans this.1), (u3 _ (by omega) (by omega)).trans ((cn_add_n i1 (by omega)).trans this.2)⟩
    · rw [mz_set_n (by omega)]
      exact (u3 _ (by omega) (by omega)).trans ((cn_add_n i1 (by omega)).trans (i6 q (by omega)))
    · show jx_E 48 23 _ _ _ = jx_E 48 23 _ _ _
      have x' : jx_A 19 [.ref z.2.1] (jx_add z (1, [.null, .null]) 2) = some (.inl none, u) := by rw [cn_1 i1]; exact x
      rw [b_48_23, if_neg (show ¬ 12 ≤ nI i from nI_ge (b := 12) hi (by decide)), jx_gA_e i2 rfl, cn_obj i1, jx_cV_e x', cn_1 i1, jx_is_e u1, mz_st e1 (by omega) hi (by decide), nI_1]
  · exact l2.trans (congrArg (fun l => some (112, l)) (mz_ar_cong fun k hk => (if_neg (Nat.not_lt_zero _)).symm))
end CN
def cl_Z : cl_T := (mm_0, none, 0, fun _ => mm_0, (0, fun _ => 0), (0, fun _ => 0), -1, -1)
theorem bd_0 {h : jx_H} {a : Nat} (H : bd_I h a 0 0 (fun k => k) (fun _ => fg_0) (fun _ => none)) : bd_R h a mm_0 :=
  ⟨_, _, _, H, ⟨fun _ _ _ _ e => e, fun _ _ _ e => (by cases e), fun _ _ hk => absurd hk (Nat.not_lt_zero _)⟩, fun _ hk => absurd hk (Nat.not_lt_zero _), fun _ _ => rfl⟩
theorem cn_fld {u v : jx_H} {b b' d t n m k : Nat} {fs0 fs vs : List Value} (S : cn_2 u b d) (o : u.1 200 = some (7, fs)) (hb : 201 ≤ b) (hk : k < fs.length) (x : jx_A m [.ref b] (jx_add u (t, fs0) n) = some (.inl none, v)) (f : ∀ q, q < b ∨ b' ≤ q → v.1 q = (jx_add u (t, fs0) n).1 q) (hb' : b < b') (ov : v.1 b = some (t, vs)) :
    ∃ w, (∀ F : jx_H → jx_R, (if u.2.1 = u.2.2.1 + jx_nc then jx_is (jx_add u (t, fs0) n) u.2.1 t (jx_cV jx_A m [.ref u.2.1] (jx_add u (t, fs0) n) (fun h1 => jx_is h1 u.2.1 t (jx_pt h1 200 7 k (.ref u.2.1) F))) else none) = F w) ∧ w.1 200 = some (7, fs.set k (.ref b)) ∧ (∀ q, q ≠ 200 → (q < b ∨ b' ≤ q) → w.1 q = u.1 q) ∧ (∀ q, q ≠ 200 → w.1 q = v.1 q) ∧ w.2 = v.2 := by
  have o' : v.1 200 = some (7, fs) := (f 200 (by omega)).trans ((cn_add_n S (by omega)).trans o)
  refine ⟨jx_set v 200 (7, fs.set k (.ref b)), fun F => ?_, mz_set_e, fun q q1 q2 => ?_, fun q q1 => mz_set_n q1, rfl⟩
  · rw [cn_obj S, cn_1 S, jx_cV_e x, jx_is_e ov, jx_pt_e o' (by decide) hk]
  · rw [mz_set_n q1]
    exact (f q q2).trans (cn_add_n S (by omega))
/-- the class's object is made -/
theorem cn_59 {xs : List Int32} {h : jx_H} {c : Nat} (K : mz_K xs h) (S : cn_2 h 201 c) (h1 : h.1 200 = some (7, [.null, .null, .int 0, .null, .null, .null, .null, .null, .int 0, .int 0, .int 0])) :
    ∃ h', jx_A 59 [.ref 200] h = some (.inl none, h') ∧ cn_2 h' 711 (c + 3247) ∧ cl_I h' cl_Z ∧ ∀ q, q < 200 ∨ 711 ≤ q → h'.1 q = h.1 q := by
  obtain ⟨v1, x1, V1, B1, f1⟩ := cn_0 (cn_add S (0, [.null, .null, .int 0, .int 0]) 4) (cn_add_e S) (by decide)
  obtain ⟨w1, y1, o1, g1, r1, s1⟩ := cn_fld S h1 (by decide) (k := 0) (by decide) x1 f1 (by decide) B1.1
  have W1 : cn_2 w1 244 (c + 4 + 264) := ⟨s1.trans V1.1, V1.2⟩
  obtain ⟨v2, x2, V2, B2, f2⟩ := cn_0 (cn_add W1 (0, [.null, .null, .int 0, .int 0]) 4) (cn_add_e W1) (by decide)
  obtain ⟨w2, y2, o2, g2, r2, s2⟩ := cn_fld W1 o1 (by decide) (k := 1) (by show 1 < 11; decide) x2 f2 (by decide) B2.1
  have W2 : cn_2 w2 287 (c + 4 + 264 + 4 + 264) := ⟨s2.trans V2.1, V2.2⟩
  obtain ⟨v3, x3, V3, B3, B3', f3⟩ := cn_42 (cn_add W2 (5, [.null, .int 0, .int 0]) 3) (cn_add_e W2) (by decide)
  obtain ⟨w3, y3, o3, g3, r3, s3⟩ := cn_fld W2 o2 (by decide) (k := 3) (by show 3 < 11; decide) x3 f3 (by decide) B3.1
  have W3 : cn_2 w3 676 (c + 4 + 264 + 4 + 264 + 3 + 2421) := ⟨s3.trans V3.1, V3.2⟩
  obtain ⟨v4, x4, V4, B4, f4⟩ := cn_31 (cn_add W3 (4, [.null, .null, .null, .int 0]) 4) (cn_add_e W3) (by decide)
  obtain ⟨wa, co, wt, gp, B4'⟩ := id B4
  obtain ⟨w4, y4, o4, g4, r4, s4⟩ := cn_fld W3 o3 (by decide) (k := 4) (by show 4 < 11; decide) x4 f4 (by decide) B4'.1
  have W4 : cn_2 w4 680 (c + 4 + 264 + 4 + 264 + 3 + 2421 + 4 + 28) := ⟨s4.trans V4.1, V4.2⟩
  obtain ⟨v5, x5, V5, B5, f5⟩ := cn_24 (cn_add W4 (3, [.null, .null]) 2) (cn_add_e W4) (by decide)
  obtain ⟨qu, pa, B5'⟩ := id B5
  obtain ⟨w5, y5, o5, g5, r5, s5⟩ := cn_fld W4 o4 (by decide) (k := 5) (by show 5 < 11; decide) x5 f5 (by decide) B5'.1
  have W5 : cn_2 w5 683 (c + 4 + 264 + 4 + 264 + 3 + 2421 + 4 + 28 + 2 + 84) := ⟨s5.trans V5.1, V5.2⟩
  have K5 : mz_K xs (jx_add w5 (6, [.null, .int 0, .int 0, .null, .int 0]) 5) := fun q hq => have hq' : q < 200 := hq; (cn_add_n W5 (by omega)).trans ((g5 q (by omega) (by omega)).trans ((g4 q (by omega) (by omega)).trans ((g3 q (by omega) (by omega)).trans ((g2 q (by omega) (by omega)).trans ((g1 q (by omega) (by omega)).trans (K q hq))))))
  obtain ⟨v6, x6, V6, B6, f6⟩ := cn_48 K5 (cn_add W5 (6, [.null, .int 0, .int 0, .null, .int 0]) 5) (cn_add_e W5) (by decide)
  obtain ⟨w6, y6, o6, g6, r6, s6⟩ := cn_fld W5 o5 (by decide) (k := 6) (by show 6 < 11; decide) x6 f6 (by decide) B6.1
  have W6 : cn_2 w6 710 (c + 4 + 264 + 4 + 264 + 3 + 2421 + 4 + 28 + 2 + 84 + 5 + 156) := ⟨s6.trans V6.1, V6.2⟩
  obtain ⟨w7, y7, W7, o7, e7, g7⟩ := cn_arr W6 (t := 101) (v := .int 0) (n := 8) (k := 7) (by decide) o6 (by decide) (by decide) (by show 7 < 11; decide)
  refine ⟨jx_set (jx_set w7 200 (7, [.ref 201, .ref 244, .int 0, .ref 287, .ref 676, .ref 680, .ref 683, .ref 710, .int 0, .int (-1), .int 0])) 200 (cl_ob cl_Z), ?_, W7, ⟨0, ?_⟩, fun q hq => ?_⟩
  · rw [a_59, y1, y2, y3, y4, y5, y6, y7, jx_pt_e o7 (by decide) (by show 9 < 11; decide), jx_pt_e mz_set_e (by decide) (by show 10 < 11; decide)]; rfl
  · have n2 : ∀ q, q ≠ 200 → (jx_set (jx_set w7 200 (7, [.ref 201, .ref 244, .int 0, .ref 287, .ref 676, .ref 680, .ref 683, .ref 710, .int 0, .int (-1), .int 0])) 200 (cl_ob cl_Z)).1 q = w7.1 q := fun q hq => (mz_set_n hq).trans (mz_set_n hq)
    have t6 : ∀ q, 200 < q → q < 710 → _ = v6.1 q := fun q a b => (n2 q (by omega)).trans ((g7 q (by omega) (by omega)).trans (r6 q (by omega)))
    have t5 : ∀ q, 200 < q → q < 683 → _ = v5.1 q := fun q a b => (n2 q (by omega)).trans ((g7 q (by omega) (by omega)).trans ((g6 q (by omega) (by omega)).trans (r5 q (by omega))))
    have t4 : ∀ q, 200 < q → q < 680 → _ = v4.1 q := fun q a b => (n2 q (by omega)).trans ((g7 q (by omega) (by omega)).trans ((g6 q (by omega) (by omega)).trans ((g5 q (by omega) (by omega)).trans (r4 q (by omega)))))
    have t3 : ∀ q, 200 < q → q < 676 → _ = v3.1 q := fun q a b => (n2 q (by omega)).trans ((g7 q (by omega) (by omega)).trans ((g6 q (by omega) (by omega)).trans ((g5 q (by omega) (by omega)).trans ((g4 q (by omega) (by omega)).trans (r3 q (by omega))))))
    have t2 : ∀ q, 200 < q → q < 287 → _ = v2.1 q := fun q a b => (n2 q (by omega)).trans ((g7 q (by omega) (by omega)).trans ((g6 q (by omega) (by omega)).trans ((g5 q (by omega) (by omega)).trans ((g4 q (by omega) (by omega)).trans ((g3 q (by omega) (by omega)).trans (r2 q (by omega)))))))
    have t1 : ∀ q, 200 < q → q < 244 → _ = v1.1 q := fun q a b => (n2 q (by omega)).trans ((g7 q (by omega) (by omega)).trans ((g6 q (by omega) (by omega)).trans ((g5 q (by omega) (by omega)).trans ((g4 q (by omega) (by omega)).trans ((g3 q (by omega) (by omega)).trans ((g2 q (by omega) (by omega)).trans (r1 q (by omega))))))))
    refine ⟨mz_set_e, bd_R_ag (bd_0 B1) (fun q a b => t1 q (by omega) (by omega)), bd_V_ag (bd_R_V (bd_0 B2)) (fun q a b => t2 q (by omega) (by omega)), hs_ag B3 (fun q a b => t3 q (by omega) (by omega)), fun k hk => bd_V_ag (B3' k hk) (fun q a b => t3 q (by omega) (by omega)), fun j hj => absurd hj (Nat.not_lt_zero _), gs_V_ag B4 (fun q a b => t4 q (by omega) (by omega)), gu_V_ag B5 (fun q a b => t5 q (by omega) (by omega)), ⟨_, _, _, _, _, sc_ag B6 (fun q a b => t6 q (by omega) (by omega)), fun i hi => absurd hi (Nat.not_lt_zero _)⟩, ⟨fun _ => 0, (n2 710 (by decide)).trans e7, fun i hi => absurd hi (Nat.not_lt_zero _), fun _ => (by decide : 0 < 65536), by decide⟩⟩
  · rw [mz_set_n (by omega), mz_set_n (by omega)]
    exact (g7 q (by omega) (by omega)).trans ((g6 q (by omega) (by omega)).trans ((g5 q (by omega) (by omega)).trans ((g4 q (by omega) (by omega)).trans ((g3 q (by omega) (by omega)).trans ((g2 q (by omega) (by omega)).trans (g1 q (by omega) (by omega)))))))
end JX
