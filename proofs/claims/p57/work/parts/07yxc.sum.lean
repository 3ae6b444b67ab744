/-! The law's sum: it says no more than the catalogue's state. -/
section JX
theorem mm_fd_u {M : mm_T} {v : Int32} {o o' : Option Nat} (h : mm_fd M v o) (h' : mm_fd M v o') : o = o' := by
  cases o with
  | none =>
    cases o' with
    | none => rfl
    | some k => exact absurd h'.2.1 (h k h'.1)
  | some k =>
    cases o' with
    | none => exact absurd h.2.1 (h' k h.1)
    | some k' =>
      by_cases c : k < k'
      · exact absurd h.2.1 (h'.2.2 k c)
      · by_cases d : k' < k
        · exact absurd h'.2.1 (h.2.2 k' d)
        · rw [show k = k' by omega]
theorem mm_fd_s {M : mm_T} {v : Int32} {k k' : Nat} (h : mm_fd M v (some k)) (h' : mm_fd M v (some k')) : k = k' := Option.some.inj (mm_fd_u h h')
theorem mm_fd_x {M : mm_T} {v : Int32} {k : Nat} (h : mm_fd M v (some k)) (h' : mm_fd M v none) : False := by
  have := mm_fd_u h h'
  cases this
theorem mm_gd_u {M : mm_T} {v : Int32} {o o' : Option (Nat × Nat)} (h : mm_gd M v o) (h' : mm_gd M v o') : o = o' := by
  have bad : ∀ {q : Nat × Nat}, mm_gd M v (some q) → mm_gd M v none → False := by
    intro q a b
    rcases b with b | ⟨k, b1, b2⟩
    · exact mm_fd_x a.1 b
    · have e := mm_fd_s a.1 b1
      have : fg_ce (M.2.2.1 k) = q.2 + 1 := by rw [← e]; exact a.2.1
      have := fg_on_0.mp b2
      omega
  cases o with
  | none =>
    cases o' with
    | none => rfl
    | some q => exact (bad h' h).elim
  | some q =>
    cases o' with
    | none => exact (bad h h').elim
    | some q' =>
      have e := mm_fd_s h.1 h'.1
      have a := h.2.1
      have b := h'.2.1
      rw [e] at a
      have e2 : q.2 = q'.2 := by omega
      exact congrArg some (Prod.ext e e2)
/-- a question's answer is one -/
def Fs (sp : q_O → Prop) : Prop := ∀ o o', sp o → sp o' → o = o'
theorem mm_fd_t (M : mm_T) (v : Int32) : ∃ t, mm_fd M v t := by
  have key : ∀ n, (∀ j, j < n → nI (fg_id (M.2.2.1 j)) ≠ v) ∨ ∃ k, k < n ∧ nI (fg_id (M.2.2.1 k)) = v ∧ ∀ j, j < k → nI (fg_id (M.2.2.1 j)) ≠ v := by
    intro n
    induction n with
    | zero => exact Or.inl (fun j hj => absurd hj (Nat.not_lt_zero _))
    | succ n ih =>
      rcases ih with a | ⟨k, a, b, c⟩
      · by_cases e : nI (fg_id (M.2.2.1 n)) = v
        · exact Or.inr ⟨n, Nat.lt_succ_self n, e, a⟩
        · refine Or.inl (fun j hj => ?_)
          by_cases q : j = n
          · rw [q]; exact e
          · exact a j (by omega)
      · exact Or.inr ⟨k, by omega, b, c⟩
  rcases key M.1 with a | ⟨k, a, b, c⟩
  · exact ⟨none, a⟩
  · exact ⟨some k, a, b, c⟩
section SM
variable {xs : List Int32} {M : mm_T}
/-- an answer that the state alone decides -/
def wv (xs : List Int32) (M : mm_T) (m : Nat) (as : List Value) (c : Nat) (z : Int32) : Prop := ∀ (C : cl_T) (h : jx_H), lo_I xs C h → C.1 = M → lo_V xs C h (jx_A m as h) (.int z) c
theorem wv_65 {v : Int32} {t : Option Nat} (ht : mm_fd M v t) : wv xs M 65 [.ref 200, .int v] 0 (bI t.isSome) := by
  rintro C h L rfl
  refine lo_q L (c_65 L.2.1 v) (fun o s => ?_)
  obtain ⟨t', q1, q2⟩ := s
  rw [mm_fd_u q1 ht] at q2
  exact q2
theorem wv_66 {v : Int32} {k : Nat} (ht : mm_fd M v (some k)) : wv xs M 66 [.ref 200, .int v] 0 (nI (fg_co (M.2.2.1 k))) := by
  rintro C h L rfl
  refine lo_q L (c_66 L.2.1 v) (fun o s => ?_)
  obtain ⟨t', q1, q2⟩ := s
  rw [mm_fd_u q1 ht] at q2
  exact q2
theorem wv_67 {v : Int32} {k : Nat} (ht : mm_fd M v (some k)) : wv xs M 67 [.ref 200, .int v] 0 (nI (fg_tn (M.2.2.1 k))) := by
  rintro C h L rfl
  refine lo_q L (c_67 L.2.1 v) (fun o s => ?_)
  obtain ⟨t', q1, q2⟩ := s
  rw [mm_fd_u q1 ht] at q2
  exact q2
theorem wv_68 {v : Int32} {k s : Nat} (ht : mm_fd M v (some k)) (hs : s < 4) : wv xs M 68 [.ref 200, .int v, .int (nI s)] 0 (nI (fg_at (M.2.2.1 k) s)) := by
  rintro C h L rfl
  refine lo_q L (c_68 L.2.1 v (nI s)) (fun o q => ?_)
  obtain ⟨t', q1, q2⟩ := q
  rw [mm_fd_u q1 ht] at q2
  obtain ⟨u, q3, q4⟩ := q2
  rw [q_rng_1 (N := 3) (b := some s) (by decide) q3 ⟨rfl, by omega⟩] at q4
  exact q4
theorem wv_140 (v : Int32) : ∃ z, wv xs M 140 [.ref 200, .int v] 1 z := by
  by_cases e : ∃ t, mm_gd M v t
  · obtain ⟨t, ht⟩ := e
    cases t with
    | none =>
      refine ⟨-13, ?_⟩
      rintro C h L rfl
      refine lo_no L (c_70 L.2.1 v) (s := eNS) (fun o s => ?_) (fun h1 e => w_140_eNS L.2.1 e)
      obtain ⟨t', q1, q2⟩ := s
      rw [mm_gd_u q1 ht] at q2
      exact q2
    | some q =>
      refine ⟨nI q.2, ?_⟩
      rintro C h L rfl
      refine lo_wd (lo_ok L (c_70 L.2.1 v) (u := .int (nI q.2)) (fun o s => ?_) (fun h1 e => w_140_ok L.2.1 e)) (Nat.zero_le _)
      obtain ⟨t', q1, q2⟩ := s
      rw [mm_gd_u q1 ht] at q2
      exact q2
  · refine ⟨0, ?_⟩
    rintro C h L rfl
    obtain ⟨o, h', ⟨t, q, -⟩, -⟩ := c_70 L.2.1 v
    exact absurd ⟨t, q⟩ e
theorem sm_69 {i k : Nat} (ht : mm_fd M (nI i) (some k)) : ∀ (f s : Nat) (z : Int64), s + f = 4 → ∃ w : Int64, ∀ (C : cl_T) (h : jx_H), lo_I xs C h → C.1 = M → ∀ (v : Value) (N : Nat), (∀ h', lo_I xs C h' → lo_V xs C h' (jx_E 186 7 [.ref 200, .long w, jx_j, .int (nI (i + 1)), .int 4] [] h') v N) → lo_V xs C h (jx_E 186 69 [.ref 200, .long z, jx_j, .int (nI i), .int (nI s)] [] h) v N
  | 0, s, z, hf => by
    have : s = 4 := by omega
    subst this
    refine ⟨z, fun C h L e v N k => ?_⟩
    rw [b_186_69, if_pos (by decide), nI_1]
    exact k h L
  | f + 1, s, z, hf => by
    obtain ⟨w, hw⟩ := sm_69 ht f (s + 1) ((17 * z) + (nI (fg_at (M.2.2.1 k) s) : Int32).toInt64) (by omega)
    refine ⟨w, fun C h L e v N kk => ?_⟩
    rw [b_186_69, if_neg (show ¬ (4 : Int32) ≤ nI s from nI_ge (b := 4) (by omega) (by decide))]
    refine lo_is L (lo_cI (wv_68 ht (by omega) C h L e) (Nat.zero_le _) (fun h1 L1 => ?_))
    rw [nI_1]
    exact hw C h1 L1 e v _ kk
theorem sm_7 : ∀ (f i : Nat) (z : Int64), i + f = 40 → ∃ w : Int64, ∀ (C : cl_T) (h : jx_H) (v4 : Value), lo_I xs C h → C.1 = M → lo_V xs C h (jx_E 186 7 [.ref 200, .long z, jx_j, .int (nI i), v4] [] h) (.long w) f
  | 0, i, z, hf => by
    have : i = 40 := by omega
    subst this
    refine ⟨z, fun C h v4 L e => ?_⟩
    rw [b_186_7, if_pos (by decide)]
    exact lo_rt L _
  | f + 1, i, z, hf => by
    obtain ⟨t, ht⟩ := mm_fd_t M (nI i)
    cases t with
    | none =>
      obtain ⟨w, hw⟩ := sm_7 f (i + 1) z (by omega)
      refine ⟨w, fun C h v4 L e => ?_⟩
      rw [b_186_7, if_neg (show ¬ (40 : Int32) ≤ nI i from nI_ge (b := 40) (by omega) (by decide))]
      refine lo_is L (lo_cI (wv_65 ht C h L e) (Nat.zero_le _) (fun h1 L1 => ?_))
      rw [if_pos (show bI (none : Option Nat).isSome = 0 from rfl), nI_1]
      exact lo_wd (hw C h1 v4 L1 e) (by omega)
    | some k =>
      obtain ⟨z8, h8⟩ := wv_140 (xs := xs) (M := M) (nI i)
      obtain ⟨w1, hw1⟩ := sm_69 (xs := xs) ht 4 0 ((41 * (((37 * ((31 * z) + (nI i : Int32).toInt64)) + ((10 * nI (fg_co (M.2.2.1 k))) : Int32).toInt64) + (nI (fg_tn (M.2.2.1 k)) : Int32).toInt64)) + (z8 : Int32).toInt64) (by decide)
      obtain ⟨w, hw⟩ := sm_7 f (i + 1) w1 (by omega)
      refine ⟨w, fun C h v4 L e => ?_⟩
      rw [b_186_7, if_neg (show ¬ (40 : Int32) ≤ nI i from nI_ge (b := 40) (by omega) (by decide))]
      refine lo_is L (lo_cI (wv_65 ht C h L e) (Nat.zero_le _) (fun h1 L1 => ?_))
      rw [if_neg (show ¬ bI (some k).isSome = 0 from (by decide : ¬ (1 : Int32) = 0))]
      refine lo_is L1 (lo_cI (wv_66 ht C h1 L1 e) (Nat.zero_le _) (fun h2 L2 => ?_))
      refine lo_is L2 (lo_cI (wv_67 ht C h2 L2 e) (Nat.zero_le _) (fun h3 L3 => ?_))
      refine lo_cI (h8 C h3 L3 e) (by omega) (fun h4 L4 => ?_)
      exact lo_wd (hw1 C h4 L4 e (.long w) f (fun h5 L5 => hw C h5 (.int 4) L5 e)) (by omega)
/-- the sum of a state -/
def sm_P (xs : List Int32) (M : mm_T) (w : Int64) : Prop := ∀ (C : cl_T) (h : jx_H), lo_I xs C h → C.1 = M → lo_V xs C h (jx_A 186 [.ref 200] h) (.long w) 40
theorem sm_x (xs : List Int32) (M : mm_T) : ∃ w, sm_P xs M w := by
  obtain ⟨w, hw⟩ := sm_7 (xs := xs) (M := M) 40 0 (mm_pm M) (by decide)
  refine ⟨w, ?_⟩
  rintro C h L e
  rw [a_186]
  refine lo_is L (lo_cL (lo_p L (c_80 L.2.1)) (Nat.zero_le _) (fun h1 L1 => ?_))
  rw [e]
  exact hw C h1 jx_j L1 e
end SM
end JX
