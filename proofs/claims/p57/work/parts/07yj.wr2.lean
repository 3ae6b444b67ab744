/-! Wrappers' answers for a fragment: on the grid, in the tray, unknown. -/
section JX
section DR
variable {M : mm_T}
theorem q_sfd (D : dr_I M) {k : Nat} (hk : k < M.1) {w : Nat → Value} {o : q_O} (s : sp_fd M (nI k) w o) : o = .inl (w k) := by
  obtain ⟨t, q1, q2⟩ := s
  rw [q_fd D hk q1] at q2
  exact q2
theorem q_sfd0 (D : dr_I M) {v : Int32} (hv : ∀ k, k < M.1 → v ≠ nI k) {w : Nat → Value} {o : q_O} (s : sp_fd M v w o) : o = .inr eNS := by
  obtain ⟨t, q1, q2⟩ := s
  rw [q_fd0 D hv q1] at q2
  exact q2
theorem fg_on_c {f : fg_T} {c : Nat} (h1 : fg_on f = true) (h2 : mm_cl f = c) : fg_ce f = c + 1 := by
  unfold fg_on at h1
  unfold mm_cl at h2
  have := bne_iff_ne.mp h1
  omega
theorem fg_off_c {f : fg_T} (h : fg_on f = false) : fg_ce f = 0 := by
  unfold fg_on at h
  by_cases z : fg_ce f = 0
  · exact z
  · rw [bne_iff_ne.mpr z] at h; cases h
theorem q_gd (D : dr_I M) {k c : Nat} (hk : k < M.1) (e : fg_ce (M.2.2.1 k) = c + 1) {t : Option (Nat × Nat)} (q : mm_gd M (nI k) t) : t = some (k, c) := by
  cases t with
  | none =>
    rcases q with q | ⟨j, q1, q2⟩
    · have := q_fd D hk q; cases this
    · have e1 : j = k := Option.some.inj (q_fd D hk q1)
      subst e1
      rw [fg_off_c q2] at e
      cases e
  | some z =>
    obtain ⟨j, d⟩ := z
    obtain ⟨q1, q2, q3⟩ := q
    have e1 : j = k := Option.some.inj (q_fd D hk q1)
    subst e1
    have q2 : fg_ce (M.2.2.1 j) = d + 1 := q2
    rw [show d = c by omega]
theorem q_gd0 (D : dr_I M) {v : Int32} (hv : (∀ k, k < M.1 → v ≠ nI k) ∨ ∃ k, k < M.1 ∧ v = nI k ∧ fg_on (M.2.2.1 k) = false) {t : Option (Nat × Nat)} (q : mm_gd M v t) : t = none := by
  cases t with
  | none => rfl
  | some z =>
    exfalso
    obtain ⟨q1, q2, -⟩ := q
    rcases hv with hv | ⟨k, hk, rfl, e⟩
    · have := q_fd0 D hv q1; cases this
    · have e1 : z.1 = k := Option.some.inj (q_fd D hk q1)
      rw [e1, fg_off_c e] at q2
      cases q2
theorem q_sgd (D : dr_I M) {k c : Nat} (hk : k < M.1) (e : fg_ce (M.2.2.1 k) = c + 1) {w : Nat → Nat → Value} {o : q_O} (s : sp_gd M (nI k) w o) : o = .inl (w k c) := by
  obtain ⟨t, q1, q2⟩ := s
  rw [q_gd D hk e q1] at q2
  exact q2
theorem q_sgd0 (D : dr_I M) {v : Int32} (hv : (∀ k, k < M.1 → v ≠ nI k) ∨ ∃ k, k < M.1 ∧ v = nI k ∧ fg_on (M.2.2.1 k) = false) {w : Nat → Nat → Value} {o : q_O} (s : sp_gd M v w o) : o = .inr eNS := by
  obtain ⟨t, q1, q2⟩ := s
  rw [q_gd0 D hv q1] at q2
  exact q2
end DR
section LO
variable {xs : List Int32} {C : cl_T} {h : jx_H}
theorem l_136 (L : lo_I xs C h) (D : dr_I C.1) {k : Nat} (hk : k < C.1.1) : lo_V xs C h (jx_A 136 [.ref 200, .int (nI k)] h) (.int (nI (fg_co (C.1.2.2.1 k)))) 0 :=
  lo_ok L (c_66 L.2.1 _) (u := .int (nI (fg_co (C.1.2.2.1 k)))) (fun o s => q_sfd D hk s) (fun h1 e => w_136_ok L.2.1 e)
theorem l_136n (L : lo_I xs C h) (D : dr_I C.1) {v : Int32} (hv : ∀ k, k < C.1.1 → v ≠ nI k) : lo_V xs C h (jx_A 136 [.ref 200, .int v] h) (.int (-13)) 1 :=
  lo_no L (c_66 L.2.1 _) (s := eNS) (fun o s => q_sfd0 D hv s) (fun h1 e => w_136_eNS L.2.1 e)
theorem l_137 (L : lo_I xs C h) (D : dr_I C.1) {k : Nat} (hk : k < C.1.1) : lo_V xs C h (jx_A 137 [.ref 200, .int (nI k)] h) (.int (nI (fg_tn (C.1.2.2.1 k)))) 0 :=
  lo_ok L (c_67 L.2.1 _) (u := .int (nI (fg_tn (C.1.2.2.1 k)))) (fun o s => q_sfd D hk s) (fun h1 e => w_137_ok L.2.1 e)
theorem l_137n (L : lo_I xs C h) (D : dr_I C.1) {v : Int32} (hv : ∀ k, k < C.1.1 → v ≠ nI k) : lo_V xs C h (jx_A 137 [.ref 200, .int v] h) (.int (-13)) 1 :=
  lo_no L (c_67 L.2.1 _) (s := eNS) (fun o s => q_sfd0 D hv s) (fun h1 e => w_137_eNS L.2.1 e)
theorem l_139 (L : lo_I xs C h) (D : dr_I C.1) {k : Nat} (hk : k < C.1.1) : lo_V xs C h (jx_A 139 [.ref 200, .int (nI k)] h) (.int (bI (fg_on (C.1.2.2.1 k)))) 0 :=
  lo_ok L (c_69 L.2.1 _) (u := .int (bI (fg_on (C.1.2.2.1 k)))) (fun o s => q_sfd D hk s) (fun h1 e => w_139_ok L.2.1 e)
theorem l_139n (L : lo_I xs C h) (D : dr_I C.1) {v : Int32} (hv : ∀ k, k < C.1.1 → v ≠ nI k) : lo_V xs C h (jx_A 139 [.ref 200, .int v] h) (.int (-13)) 1 :=
  lo_no L (c_69 L.2.1 _) (s := eNS) (fun o s => q_sfd0 D hv s) (fun h1 e => w_139_eNS L.2.1 e)
theorem l_69 (L : lo_I xs C h) (D : dr_I C.1) {k : Nat} (hk : k < C.1.1) : lo_V xs C h (jx_A 69 [.ref 200, .int (nI k)] h) (.int (bI (fg_on (C.1.2.2.1 k)))) 0 :=
  lo_q L (c_69 L.2.1 _) (fun o s => q_sfd D hk s)
theorem l_65 (L : lo_I xs C h) (D : dr_I C.1) {k : Nat} (hk : k < C.1.1) : lo_V xs C h (jx_A 65 [.ref 200, .int (nI k)] h) (.int 1) 0 :=
  lo_q L (c_65 L.2.1 _) (fun o s => by obtain ⟨t, q1, q2⟩ := s; rw [q_fd D hk q1] at q2; exact q2)
theorem l_65n (L : lo_I xs C h) (D : dr_I C.1) {v : Int32} (hv : ∀ k, k < C.1.1 → v ≠ nI k) : lo_V xs C h (jx_A 65 [.ref 200, .int v] h) (.int 0) 0 :=
  lo_q L (c_65 L.2.1 _) (fun o s => by obtain ⟨t, q1, q2⟩ := s; rw [q_fd0 D hv q1] at q2; exact q2)
theorem l_138 (L : lo_I xs C h) (D : dr_I C.1) {k s : Nat} (hk : k < C.1.1) (hs : s < 4) : lo_V xs C h (jx_A 138 [.ref 200, .int (nI k), .int (nI s)] h) (.int (nI (fg_at (C.1.2.2.1 k) s))) 0 :=
  lo_ok L (c_68 L.2.1 _ _) (u := .int (nI (fg_at (C.1.2.2.1 k) s))) (fun o q => by
    obtain ⟨t, q1, q2⟩ := q
    rw [q_fd D hk q1] at q2
    obtain ⟨u, q3, q4⟩ := q2
    rw [q_rng_1 (N := 3) (b := some s) (by decide) q3 ⟨rfl, by omega⟩] at q4
    exact q4) (fun h1 e => w_138_ok L.2.1 e)
theorem l_138x (L : lo_I xs C h) (D : dr_I C.1) {k : Nat} {v : Int32} (hk : k < C.1.1) (hv : ∀ j, j < 4 → v ≠ nI j) : lo_V xs C h (jx_A 138 [.ref 200, .int (nI k), .int v] h) (.int (-12)) 1 :=
  lo_no L (c_68 L.2.1 _ _) (s := eIA) (fun o q => by
    obtain ⟨t, q1, q2⟩ := q
    rw [q_fd D hk q1] at q2
    obtain ⟨u, q3, q4⟩ := q2
    rw [q_rng_1 (N := 3) (b := none) (by decide) q3 (fun j hj => hv j (by omega))] at q4
    exact q4) (fun h1 e => w_138_eIA L.2.1 e)
theorem l_138n (L : lo_I xs C h) (D : dr_I C.1) {v s : Int32} (hv : ∀ k, k < C.1.1 → v ≠ nI k) : lo_V xs C h (jx_A 138 [.ref 200, .int v, .int s] h) (.int (-13)) 1 :=
  lo_no L (c_68 L.2.1 _ _) (s := eNS) (fun o q => by obtain ⟨t, q1, q2⟩ := q; rw [q_fd0 D hv q1] at q2; exact q2) (fun h1 e => w_138_eNS L.2.1 e)
theorem l_140 (L : lo_I xs C h) (D : dr_I C.1) {k c : Nat} (hk : k < C.1.1) (e : fg_ce (C.1.2.2.1 k) = c + 1) : lo_V xs C h (jx_A 140 [.ref 200, .int (nI k)] h) (.int (nI c)) 0 :=
  lo_ok L (c_70 L.2.1 _) (u := .int (nI c)) (fun o s => q_sgd D hk e s) (fun h1 e => w_140_ok L.2.1 e)
theorem l_140n (L : lo_I xs C h) (D : dr_I C.1) {v : Int32} (hv : (∀ k, k < C.1.1 → v ≠ nI k) ∨ ∃ k, k < C.1.1 ∧ v = nI k ∧ fg_on (C.1.2.2.1 k) = false) : lo_V xs C h (jx_A 140 [.ref 200, .int v] h) (.int (-13)) 1 :=
  lo_no L (c_70 L.2.1 _) (s := eNS) (fun o s => q_sgd0 D hv s) (fun h1 e => w_140_eNS L.2.1 e)
theorem l_148 (L : lo_I xs C h) (D : dr_I C.1) {k c s : Nat} (hk : k < C.1.1) (e : fg_ce (C.1.2.2.1 k) = c + 1) (hs : s < 4) : lo_V xs C h (jx_A 148 [.ref 200, .int (nI k), .int (nI s)] h) (.int (bI (mm_ct C.1.2.2.2 c s == 1))) 0 :=
  lo_ok L (c_87 L.1 L.2.1 _ _) (u := .int (bI (mm_ct C.1.2.2.2 c s == 1))) (fun o q => by
    obtain ⟨t, q1, q2⟩ := q
    rw [q_gd D hk e q1] at q2
    obtain ⟨u, q3, q4⟩ := q2
    rw [q_rng_1 (N := 3) (b := some s) (by decide) q3 ⟨rfl, by omega⟩] at q4
    exact q4) (fun h1 e => w_148_ok L.2.1 e)
theorem l_148n (L : lo_I xs C h) (D : dr_I C.1) {v s : Int32} (hv : (∀ k, k < C.1.1 → v ≠ nI k) ∨ ∃ k, k < C.1.1 ∧ v = nI k ∧ fg_on (C.1.2.2.1 k) = false) : lo_V xs C h (jx_A 148 [.ref 200, .int v, .int s] h) (.int (-13)) 1 :=
  lo_no L (c_87 L.1 L.2.1 _ _) (s := eNS) (fun o q => by obtain ⟨t, q1, q2⟩ := q; rw [q_gd0 D hv q1] at q2; exact q2) (fun h1 e => w_148_eNS L.2.1 e)
theorem l_149 (L : lo_I xs C h) (D : dr_I C.1) {k c : Nat} (hk : k < C.1.1) (e : fg_ce (C.1.2.2.1 k) = c + 1) : lo_V xs C h (jx_A 149 [.ref 200, .int (nI k)] h) (.int (nI (mm_ms C.1.2.2.2 2 c))) 0 :=
  lo_ok L (c_88 L.1 L.2.1 _) (u := .int (nI (mm_ms C.1.2.2.2 2 c))) (fun o s => q_sgd D hk e s) (fun h1 e => w_149_ok L.2.1 e)
theorem l_149n (L : lo_I xs C h) (D : dr_I C.1) {v : Int32} (hv : (∀ k, k < C.1.1 → v ≠ nI k) ∨ ∃ k, k < C.1.1 ∧ v = nI k ∧ fg_on (C.1.2.2.1 k) = false) : lo_V xs C h (jx_A 149 [.ref 200, .int v] h) (.int (-13)) 1 :=
  lo_no L (c_88 L.1 L.2.1 _) (s := eNS) (fun o s => q_sgd0 D hv s) (fun h1 e => w_149_eNS L.2.1 e)
theorem l_155 (L : lo_I xs C h) (D : dr_I C.1) {k c : Nat} (hk : k < C.1.1) (e : fg_ce (C.1.2.2.1 k) = c + 1) : lo_V xs C h (jx_A 155 [.ref 200, .int (nI k)] h) (.int (nI (mm_gz C.1.2.2.2 c))) 0 :=
  lo_ok L (c_96 L.1 L.2.1 _) (u := .int (nI (mm_gz C.1.2.2.2 c))) (fun o s => q_sgd D hk e s) (fun h1 e => w_155_ok L.2.1 e)
theorem l_155n (L : lo_I xs C h) (D : dr_I C.1) {v : Int32} (hv : (∀ k, k < C.1.1 → v ≠ nI k) ∨ ∃ k, k < C.1.1 ∧ v = nI k ∧ fg_on (C.1.2.2.1 k) = false) : lo_V xs C h (jx_A 155 [.ref 200, .int v] h) (.int (-13)) 1 :=
  lo_no L (c_96 L.1 L.2.1 _) (s := eNS) (fun o s => q_sgd0 D hv s) (fun h1 e => w_155_eNS L.2.1 e)
theorem l_164 (L : lo_I xs C h) (D : dr_I C.1) {k c : Nat} (hk : k < C.1.1) (e : fg_ce (C.1.2.2.1 k) = c + 1) : lo_V xs C h (jx_A 164 [.ref 200, .int (nI k)] h) (.long (mm_gk C.1.2.2.2 c)) 0 :=
  lo_ok L (c_97 L.1 L.2.1 _) (u := .long (mm_gk C.1.2.2.2 c)) (fun o s => q_sgd D hk e s) (fun h1 e => w_164_ok L.2.1 e)
theorem l_164n (L : lo_I xs C h) (D : dr_I C.1) {v : Int32} (hv : (∀ k, k < C.1.1 → v ≠ nI k) ∨ ∃ k, k < C.1.1 ∧ v = nI k ∧ fg_on (C.1.2.2.1 k) = false) : lo_V xs C h (jx_A 164 [.ref 200, .int v] h) (.long (-2)) 1 :=
  lo_no L (c_97 L.1 L.2.1 _) (s := eNS) (fun o s => q_sgd0 D hv s) (fun h1 e => w_164_eNS L.2.1 e)
theorem q_tray {M : mm_T} (hn : M.1 ≤ 20) {k : Nat} (hk : k < M.1) (lk : fg_on (M.2.2.1 k) = false) {t : Option Nat} (q : bd_tr M.1 M.2.2.1 (nI (lo_n k M.2.2.1)) t) : t = some k := by
  have l0 := lo_le k M.2.2.1
  cases t with
  | none => exact absurd ⟨lk, rfl⟩ (q k hk)
  | some i =>
    obtain ⟨r1, r2, r3⟩ := q
    have li : lo_n i M.2.2.1 ≤ i := lo_le i M.2.2.1
    have r3 : nI (lo_n i M.2.2.1) = nI (lo_n k M.2.2.1) := r3
    have r3 := (nI_eq (by omega) (by omega)).mp r3
    rcases Nat.lt_trichotomy i k with z | z | z
    · have := lo_mono z r2; omega
    · rw [z]
    · have := lo_mono z lk; omega
theorem q_tray0 {M : mm_T} {v : Int32} (hv : ∀ j, j < lo_n M.1 M.2.2.1 → v ≠ nI j) {t : Option Nat} (q : bd_tr M.1 M.2.2.1 v t) : t = none := by
  cases t with
  | none => rfl
  | some i => exact absurd q.2.2.symm (hv _ (lo_mono q.1 q.2.1))
theorem l_135 (L : lo_I xs C h) (D : dr_I C.1) {k : Nat} (hk : k < C.1.1) (lk : fg_on (C.1.2.2.1 k) = false) : lo_V xs C h (jx_A 135 [.ref 200, .int (nI (lo_n k C.1.2.2.1))] h) (.int (nI k)) 0 :=
  lo_ok L (c_64 L.2.1 _) (u := .int (nI k)) (fun o s => by
    obtain ⟨t, q1, q2⟩ := s
    rw [q_tray D.2.1 hk lk q1] at q2
    have q2 : o = .inl (.int (nI (fg_id (C.1.2.2.1 k)))) := q2
    rw [D.2.2.2 k hk] at q2
    exact q2) (fun h1 e => w_135_ok L.2.1 e)
theorem l_135n (L : lo_I xs C h) {v : Int32} (hv : ∀ j, j < lo_n C.1.1 C.1.2.2.1 → v ≠ nI j) : lo_V xs C h (jx_A 135 [.ref 200, .int v] h) (.int (-11)) 1 :=
  lo_no L (c_64 L.2.1 _) (s := eIO) (fun o s => by
    obtain ⟨t, q1, q2⟩ := s
    rw [q_tray0 hv q1] at q2
    exact q2) (fun h1 e => w_135_eIO L.2.1 e)
theorem l_62 (L : lo_I xs C h) : lo_V xs C h (jx_A 62 [.ref 200] h) (.int (nI C.1.1)) 0 := lo_p L (c_62 L.2.1)
theorem l_71 (L : lo_I xs C h) : lo_V xs C h (jx_A 71 [.ref 200] h) (.int (nI (mm_dp C.1))) 0 := lo_p L (c_71 L.2.1)
end LO
end JX
