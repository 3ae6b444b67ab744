/-! Guesses: the tray, the best guess, the questions of a gap. -/
section JX
section LO
variable {xs : List Int32} {C : cl_T} {h : jx_H}
theorem l_63 (L : lo_I xs C h) : lo_V xs C h (jx_A 63 [.ref 200] h) (.int (nI (lo_n C.1.1 C.1.2.2.1))) 0 := lo_p L (c_63 L.2.1)
theorem l_64 (L : lo_I xs C h) (D : dr_I C.1) {j : Nat} (hj : j < lo_n C.1.1 C.1.2.2.1) : ∃ k, k < C.1.1 ∧ fg_on (C.1.2.2.1 k) = false ∧ lo_n k C.1.2.2.1 = j ∧ lo_V xs C h (jx_A 64 [.ref 200, .int (nI j)] h) (.int (nI (fg_id (C.1.2.2.1 k)))) 0 := by
  obtain ⟨k, h1, h2, h3⟩ := lo_ex hj
  have n20 := D.2.1
  have l20 := lo_le C.1.1 C.1.2.2.1
  refine ⟨k, h1, h2, h3, lo_q L (c_64 L.2.1 (nI j)) (fun o q => ?_)⟩
  obtain ⟨t, q1, q2⟩ := q
  have e : t = some k := by
    cases t with
    | none => exact absurd ⟨h2, congrArg nI h3⟩ (q1 k h1)
    | some i =>
      obtain ⟨r1, r2, r3⟩ := q1
      have li : lo_n i C.1.2.2.1 ≤ i := lo_le i C.1.2.2.1
      have r3 : nI (lo_n i C.1.2.2.1) = nI j := r3
      have r3 := (nI_eq (by omega) (by omega)).mp r3
      rcases Nat.lt_trichotomy i k with z | z | z
      · have := lo_mono z r2; omega
      · rw [z]
      · have := lo_mono z h2; omega
  rw [e] at q2
  exact q2
/-- the number told of a guess -/
def lg_g (M : mm_T) (b : Option Nat) : Int32 := match b with | none => -13 | some k => nI (fg_id (M.2.2.1 k))
/-- the best guess -/
def lg_B (M : mm_T) (c : Nat) (b : Option Nat) : Prop := match b with
  | none => lo_n M.1 M.2.2.1 = 0
  | some k => k < M.1 ∧ fg_on (M.2.2.1 k) = false ∧ mm_rk M.1 M.2.2.1 (mm_tws M c) k = 0
theorem lg_Bx (M : mm_T) (c : Nat) : ∃ b, lg_B M c b := by
  by_cases z : lo_n M.1 M.2.2.1 = 0
  · exact ⟨none, z⟩
  · obtain ⟨k, h1, h2, h3⟩ := rk_ex (n := M.1) (F := M.2.2.1) (tw := mm_tws M c) (r := 0) (by omega)
    exact ⟨some k, h1, h2, h3⟩
/-- the best of the first j of the tray -/
def lg_J (M : mm_T) (c j : Nat) (b : Option Nat) : Prop := match b with
  | none => j = 0
  | some k => k < M.1 ∧ fg_on (M.2.2.1 k) = false ∧ lo_n k M.2.2.1 < j ∧ ∀ k', k' < M.1 → fg_on (M.2.2.1 k') = false → lo_n k' M.2.2.1 < j → k' = k ∨ rk_b (mm_tws M c) k k'
theorem l_175 (L : lo_I xs C h) (D : dr_I C.1) {c : Nat} (hc : c < 64) {b : Option Nat} (hb : lg_B C.1 c b) : lo_V xs C h (jx_A 175 [.ref 200, .int (nI (c / 8)), .int (nI (c % 8))] h) (.int (lg_g C.1 b)) 1120 := by
  have n20 := D.2.1
  have l20 := lo_le C.1.1 C.1.2.2.1
  rw [a_175]
  refine lo_wd (lo_lp (γ := Option Nat × Value) (fun i g h => jx_E 175 6 [.ref 200, .int (nI (c / 8)), .int (nI (c % 8)), .int (lg_g C.1 g.1), .int (nI i), g.2] [] h) (lo_n C.1.1 C.1.2.2.1) 56 0 (.int (lg_g C.1 b)) (fun i g => lg_J C.1 c i g.1) ?_ ?_ 0 (none, jx_j) h (Nat.zero_le _) rfl L) (by omega)
  · intro g h hI L
    show lo_V xs C h (jx_E 175 6 _ _ _) _ 0
    rw [b_175_6]
    refine lo_is L (lo_cI (l_63 L) (by decide) (fun h1 L1 => ?_))
    rw [if_pos (nI_le (Nat.le_refl _) (by omega))]
    have e : g.1 = b := by
      cases e1 : g.1 with
      | none =>
        rw [e1] at hI
        have hI : lo_n C.1.1 C.1.2.2.1 = 0 := hI
        cases b with
        | none => rfl
        | some k =>
          have := lo_mono (F := C.1.2.2.1) hb.1 hb.2.1
          omega
      | some k =>
        rw [e1] at hI
        obtain ⟨q1, q2, q3, q4⟩ := hI
        cases b with
        | none => have hb : lo_n C.1.1 C.1.2.2.1 = 0 := hb; omega
        | some k0 =>
          obtain ⟨r1, r2, r3⟩ := hb
          rcases q4 k0 r1 r2 (lo_mono r1 r2) with z | z
          · rw [z]
          · have := rk_lt (n := C.1.1) (F := C.1.2.2.1) q1 q2 z; omega
    rw [e]
    exact lo_rt L1 _
  · intro i g h B hi hI L kk
    show lo_V xs C h (jx_E 175 6 _ _ _) _ _
    rw [b_175_6]
    refine lo_is L (lo_cI (l_63 L) (by omega) (fun h1 L1 => ?_))
    rw [if_neg (nI_ge hi (by omega))]
    obtain ⟨k, h1, h2, h3, h4⟩ := l_64 L1 D hi
    refine lo_is L1 (lo_cI h4 (by omega) (fun h5 L5 => ?_))
    have i1 : ∀ {k' : Nat}, fg_on (C.1.2.2.1 k') = false → lo_n k' C.1.2.2.1 = i → k' = k := fun {k'} l e => by
      rcases Nat.lt_trichotomy k' k with z | z | z
      · have := lo_mono z l; omega
      · exact z
      · have := lo_mono z h2; omega
    rw [nI_1]
    cases e1 : g.1 with
    | none =>
      rw [e1] at hI
      have hI : i = 0 := hI
      rw [if_pos (show lg_g C.1 none < 0 by show (-13 : Int32) < 0; decide)]
      exact lo_wd (kk (some k, .int (nI (fg_id (C.1.2.2.1 k)))) h5 ⟨h1, h2, by omega, fun k' a l z => Or.inl (i1 l (by omega))⟩ L5) (by omega)
    | some k0 =>
      rw [e1] at hI
      obtain ⟨q1, q2, q3, q4⟩ := hI
      have id0 : fg_id (C.1.2.2.1 k0) = k0 := D.2.2.2 k0 q1
      rw [if_neg (show ¬ lg_g C.1 (some k0) < 0 from nI_pos (by omega))]
      refine lo_cI (l_174 L5 D (dr_pd D h1) hc) (by omega) (fun h6 L6 => ?_)
      refine lo_cI (l_174 L6 D (dr_pd D q1) hc) (by omega) (fun h7 L7 => ?_)
      have b1 := mm_tw_b C.1.2.2.2 (C.1.2.2.1 k) c
      have b2 := mm_tw_b C.1.2.2.2 (C.1.2.2.1 k0) c
      have lt0 : k0 < k := lo_lt (F := C.1.2.2.1) q2 h2 (by omega)
      by_cases q : mm_tw C.1.2.2.2 (C.1.2.2.1 k) c ≤ mm_tw C.1.2.2.2 (C.1.2.2.1 k0) c
      · rw [if_pos ((zI_le (by omega) (by omega) (by omega) (by omega)).mpr q)]
        refine lo_wd (kk (some k0, .int (nI (fg_id (C.1.2.2.1 k)))) h7 ⟨q1, q2, by omega, fun k' a l z => ?_⟩ L7) (by omega)
        by_cases y : lo_n k' C.1.2.2.1 = i
        · have e := i1 l y
          subst e
          right
          show mm_tw C.1.2.2.2 (C.1.2.2.1 k') c < mm_tw C.1.2.2.2 (C.1.2.2.1 k0) c ∨ (mm_tw C.1.2.2.2 (C.1.2.2.1 k0) c = mm_tw C.1.2.2.2 (C.1.2.2.1 k') c ∧ k0 < k')
          omega
        · exact q4 k' a l (by omega)
      · rw [if_neg (fun z => q ((zI_le (by omega) (by omega) (by omega) (by omega)).mp z))]
        have bb : rk_b (mm_tws C.1 c) k k0 := Or.inl (by show mm_tw C.1.2.2.2 (C.1.2.2.1 k0) c < mm_tw C.1.2.2.2 (C.1.2.2.1 k) c; omega)
        refine lo_wd (kk (some k, .int (nI (fg_id (C.1.2.2.1 k)))) h7 ⟨h1, h2, by omega, fun k' a l z => ?_⟩ L7) (by omega)
        by_cases y : lo_n k' C.1.2.2.1 = i
        · exact Or.inl (i1 l y)
        · rcases q4 k' a l (by omega) with w | w
          · subst w; exact Or.inr bb
          · exact Or.inr (rk_t bb w)
-- the questions of a gap
theorem q_gr {M : mm_T} {c k R : Nat} (hn : M.1 ≤ 20) (hk : k < M.1) (lk : fg_on (M.2.2.1 k) = false) (e : mm_rk M.1 M.2.2.1 (mm_tws M c) k = R) {t : Option Nat} (q : mm_gr M.1 M.2.2.1 (mm_tws M c) (nI R) t) : t = some k := by
  have b := rk_n (tw := mm_tws M c) hk lk
  have l := lo_le M.1 M.2.2.1
  cases t with
  | none => exact absurd ⟨lk, congrArg nI e⟩ (q k hk)
  | some j =>
    obtain ⟨q1, q2, q3⟩ := q
    have b2 := rk_n (tw := mm_tws M c) q1 q2
    rw [rk_1 q1 hk q2 lk (((nI_eq (by omega) (by omega)).mp q3).trans e.symm)]
theorem q_gr0 {M : mm_T} {c : Nat} {r : Int32} (hr : ∀ k, k < M.1 → fg_on (M.2.2.1 k) = false → nI (mm_rk M.1 M.2.2.1 (mm_tws M c) k) ≠ r) {t : Option Nat} (q : mm_gr M.1 M.2.2.1 (mm_tws M c) r t) : t = none := by
  cases t with
  | none => rfl
  | some j => exact absurd q.2.2 (hr j q.1 q.2.1)
theorem q_rank {M : mm_T} {y x r : Int32} {c : Nat} {o : q_O} (hq : q_cell y x (some c)) (g : mm_gap M.2.2.2 c = true) (s : sp_rank M y x r o) : ∃ t, mm_gr M.1 M.2.2.1 (mm_tws M c) r t ∧ o = match t with | some k => .inl (.int (nI (fg_id (M.2.2.1 k)))) | none => .inr eNS := by
  obtain ⟨c', s1, s2⟩ := s
  rw [q_cell_1 s1 hq] at s2
  rcases s2 with ⟨z, -⟩ | ⟨-, z⟩
  · rw [g] at z; cases z
  · exact z
theorem q_rank0 {M : mm_T} {y x r : Int32} {c : Nat} {o : q_O} (hq : q_cell y x (some c)) (g : mm_gap M.2.2.2 c = false) (s : sp_rank M y x r o) : o = .inr eUO := by
  obtain ⟨c', s1, s2⟩ := s
  rw [q_cell_1 s1 hq] at s2
  rcases s2 with ⟨-, z⟩ | ⟨z, -⟩
  · exact z
  · rw [g] at z; cases z
theorem q_rankn {M : mm_T} {y x r : Int32} {o : q_O} (hq : q_cell y x none) (s : sp_rank M y x r o) : o = .inr eIO := by
  obtain ⟨c', s1, s2⟩ := s
  rw [q_cell_1 s1 hq] at s2
  exact s2
theorem lg_B0 {M : mm_T} {c : Nat} (hb : lg_B M c none) (k : Nat) (hk : k < M.1) (lk : fg_on (M.2.2.1 k) = false) (r : Int32) : nI (mm_rk M.1 M.2.2.1 (mm_tws M c) k) ≠ r := by
  have hb : lo_n M.1 M.2.2.1 = 0 := hb
  have := lo_mono hk lk
  omega
theorem l_153 (L : lo_I xs C h) (D : dr_I C.1) {c : Nat} (hc : c < 64) (g : mm_gap C.1.2.2.2 c = true) {b : Option Nat} (hb : lg_B C.1 c b) : lo_V xs C h (jx_A 153 [.ref 200, .int (nI (c / 8)), .int (nI (c % 8))] h) (.int (lg_g C.1 b)) 1 := by
  cases b with
  | none =>
    refine lo_no L (c_92 L.1 L.2.1 _ _) (s := eNS) (fun o s => ?_) (fun h1 e => w_153_eNS L.2.1 e)
    obtain ⟨t, q1, q2⟩ := q_rank (q_rc hc) g s
    rw [q_gr0 (fun k hk lk => lg_B0 hb k hk lk 0) q1] at q2
    exact q2
  | some k =>
    refine lo_wd (lo_ok L (c_92 L.1 L.2.1 _ _) (u := .int (nI (fg_id (C.1.2.2.1 k)))) (fun o s => ?_) (fun h1 e => w_153_ok L.2.1 e)) (by decide)
    obtain ⟨t, q1, q2⟩ := q_rank (q_rc hc) g s
    rw [q_gr (R := 0) D.2.1 hb.1 hb.2.1 hb.2.2 q1] at q2
    exact q2
theorem l_153u (L : lo_I xs C h) {c : Nat} (hc : c < 64) (g : mm_gap C.1.2.2.2 c = false) : lo_V xs C h (jx_A 153 [.ref 200, .int (nI (c / 8)), .int (nI (c % 8))] h) (.int (-15)) 1 :=
  lo_no L (c_92 L.1 L.2.1 _ _) (s := eUO) (fun o s => q_rank0 (q_rc hc) g s) (fun h1 e => w_153_eUO L.2.1 e)
theorem l_153n (L : lo_I xs C h) {y x : Int32} (hq : q_cell y x none) : lo_V xs C h (jx_A 153 [.ref 200, .int y, .int x] h) (.int (-11)) 1 :=
  lo_no L (c_92 L.1 L.2.1 _ _) (s := eIO) (fun o s => q_rankn hq s) (fun h1 e => w_153_eIO L.2.1 e)
theorem l_154 (L : lo_I xs C h) (D : dr_I C.1) {c k R : Nat} (hc : c < 64) (g : mm_gap C.1.2.2.2 c = true) (hk : k < C.1.1) (lk : fg_on (C.1.2.2.1 k) = false) (e : mm_rk C.1.1 C.1.2.2.1 (mm_tws C.1 c) k = R) : lo_V xs C h (jx_A 154 [.ref 200, .int (nI (c / 8)), .int (nI (c % 8)), .int (nI R)] h) (.int (nI (fg_id (C.1.2.2.1 k)))) 0 := by
  refine lo_ok L (c_93 L.1 L.2.1 _ _ _) (u := .int (nI (fg_id (C.1.2.2.1 k)))) (fun o s => ?_) (fun h1 e => w_154_ok L.2.1 e)
  obtain ⟨t, q1, q2⟩ := q_rank (q_rc hc) g s
  rw [q_gr D.2.1 hk lk e q1] at q2
  exact q2
theorem l_154x (L : lo_I xs C h) {c : Nat} {r : Int32} (hc : c < 64) (g : mm_gap C.1.2.2.2 c = true) (hr : ∀ k, k < C.1.1 → fg_on (C.1.2.2.1 k) = false → nI (mm_rk C.1.1 C.1.2.2.1 (mm_tws C.1 c) k) ≠ r) : lo_V xs C h (jx_A 154 [.ref 200, .int (nI (c / 8)), .int (nI (c % 8)), .int r] h) (.int (-13)) 1 := by
  refine lo_no L (c_93 L.1 L.2.1 _ _ _) (s := eNS) (fun o s => ?_) (fun h1 e => w_154_eNS L.2.1 e)
  obtain ⟨t, q1, q2⟩ := q_rank (q_rc hc) g s
  rw [q_gr0 hr q1] at q2
  exact q2
theorem l_154u (L : lo_I xs C h) {c : Nat} {r : Int32} (hc : c < 64) (g : mm_gap C.1.2.2.2 c = false) : lo_V xs C h (jx_A 154 [.ref 200, .int (nI (c / 8)), .int (nI (c % 8)), .int r] h) (.int (-15)) 1 :=
  lo_no L (c_93 L.1 L.2.1 _ _ _) (s := eUO) (fun o s => q_rank0 (q_rc hc) g s) (fun h1 e => w_154_eUO L.2.1 e)
theorem l_154n (L : lo_I xs C h) {y x r : Int32} (hq : q_cell y x none) : lo_V xs C h (jx_A 154 [.ref 200, .int y, .int x, .int r] h) (.int (-11)) 1 :=
  lo_no L (c_93 L.1 L.2.1 _ _ _) (s := eIO) (fun o s => q_rankn hq s) (fun h1 e => w_154_eIO L.2.1 e)
theorem q_wt (D : dr_I C.1) {k : Nat} {t : Int32} {u : Option Nat} {c : Nat} {o : q_O} (hc : c < 64) (g : mm_gap C.1.2.2.2 c = true) (hk : k < C.1.1) (lk : fg_on (C.1.2.2.1 k) = false) (hu : q_rng t 3 u) (s : sp_wt C.1 (nI (fg_id (C.1.2.2.1 k))) (nI (c / 8)) (nI (c % 8)) t o) : o = match u with | some t' => .inl (.int (zI (mm_wt C.1.2.2.2 (C.1.2.2.1 k) c t'))) | none => .inr eIA := by
  rw [D.2.2.2 k hk] at s
  obtain ⟨v, q1, q2⟩ := s
  rw [q_fd D hk q1] at q2
  obtain ⟨c', q3, q4⟩ := q2
  rw [q_cell_1 q3 (q_rc hc)] at q4
  obtain ⟨t', q5, q6⟩ := q4
  rw [q_rng_1 (by decide) q5 hu] at q6
  cases u with
  | none => exact q6
  | some t2 =>
    rcases q6 with ⟨z, -⟩ | ⟨-, ⟨z, -⟩ | ⟨-, z⟩⟩
    · rw [lk] at z; cases z
    · rw [g] at z; cases z
    · exact z
theorem l_151 (L : lo_I xs C h) (D : dr_I C.1) {c k t : Nat} (hc : c < 64) (g : mm_gap C.1.2.2.2 c = true) (hk : k < C.1.1) (lk : fg_on (C.1.2.2.1 k) = false) (ht : t < 4) : lo_V xs C h (jx_A 151 [.ref 200, .int (nI (fg_id (C.1.2.2.1 k))), .int (nI (c / 8)), .int (nI (c % 8)), .int (nI t)] h) (.int (zI (mm_wt C.1.2.2.2 (C.1.2.2.1 k) c t))) 0 :=
  lo_ok L (c_90 L.1 L.2.1 _ _ _ _) (u := .int (zI (mm_wt C.1.2.2.2 (C.1.2.2.1 k) c t))) (fun o s => q_wt D hc g hk lk (u := some t) ⟨rfl, by omega⟩ s) (fun h1 e => w_151_ok L.2.1 e)
theorem l_151x (L : lo_I xs C h) (D : dr_I C.1) {c k : Nat} (hc : c < 64) (g : mm_gap C.1.2.2.2 c = true) (hk : k < C.1.1) (lk : fg_on (C.1.2.2.1 k) = false) : lo_V xs C h (jx_A 151 [.ref 200, .int (nI (fg_id (C.1.2.2.1 k))), .int (nI (c / 8)), .int (nI (c % 8)), .int 4] h) (.int (-112)) 1 :=
  lo_no L (c_90 L.1 L.2.1 _ _ _ _) (s := eIA) (fun o s => q_wt D hc g hk lk (u := none) (fun j hj => by
    have : ∀ j, j < 4 → (4 : Int32) ≠ nI j := by decide
    exact this j (by omega)) s) (fun h1 e => w_151_eIA L.2.1 e)
theorem l_151n (L : lo_I xs C h) (D : dr_I C.1) {v y x t : Int32} (hv : ∀ k, k < C.1.1 → v ≠ nI k) : lo_V xs C h (jx_A 151 [.ref 200, .int v, .int y, .int x, .int t] h) (.int (-113)) 1 :=
  lo_no L (c_90 L.1 L.2.1 _ _ _ _) (s := eNS) (fun o s => by obtain ⟨u, q1, q2⟩ := s; rw [q_fd0 D hv q1] at q2; exact q2) (fun h1 e => w_151_eNS L.2.1 e)
theorem l_152 (L : lo_I xs C h) (D : dr_I C.1) {c k : Nat} (hc : c < 64) (g : mm_gap C.1.2.2.2 c = true) (hk : k < C.1.1) (lk : fg_on (C.1.2.2.1 k) = false) : lo_V xs C h (jx_A 152 [.ref 200, .int (nI (fg_id (C.1.2.2.1 k))), .int (nI (c / 8)), .int (nI (c % 8))] h) (.int (nI (mm_tn C.1.2.2.2 (C.1.2.2.1 k) c))) 0 := by
  refine lo_ok L (c_91 L.1 L.2.1 _ _ _) (u := .int (nI (mm_tn C.1.2.2.2 (C.1.2.2.1 k) c))) (fun o s => ?_) (fun h1 e => w_152_ok L.2.1 e)
  rw [D.2.2.2 k hk] at s
  obtain ⟨v, q1, q2⟩ := s
  rw [q_fd D hk q1] at q2
  obtain ⟨c', q3, q4⟩ := q2
  rw [q_cell_1 q3 (q_rc hc)] at q4
  rcases q4 with ⟨z, -⟩ | ⟨-, ⟨z, -⟩ | ⟨-, z⟩⟩
  · rw [lk] at z; cases z
  · rw [g] at z; cases z
  · exact z
theorem l_152n (L : lo_I xs C h) (D : dr_I C.1) {v y x : Int32} (hv : ∀ k, k < C.1.1 → v ≠ nI k) : lo_V xs C h (jx_A 152 [.ref 200, .int v, .int y, .int x] h) (.int (-13)) 1 :=
  lo_no L (c_91 L.1 L.2.1 _ _ _) (s := eNS) (fun o s => by obtain ⟨u, q1, q2⟩ := s; rw [q_fd0 D hv q1] at q2; exact q2) (fun h1 e => w_152_eNS L.2.1 e)
theorem l_150 (L : lo_I xs C h) {c : Nat} (hc : c < 64) (g : mm_gap C.1.2.2.2 c = true) : lo_V xs C h (jx_A 150 [.ref 200, .int (nI (c / 8)), .int (nI (c % 8))] h) (.int (nI (mm_nc C.1.2.2.2 c))) 0 :=
  lo_ok L (c_89 L.1 L.2.1 _ _) (u := .int (nI (mm_nc C.1.2.2.2 c))) (fun o s => by
    obtain ⟨c', s1, s2⟩ := s
    rw [q_cell_1 s1 (q_rc hc)] at s2
    rcases s2 with ⟨z, -⟩ | ⟨-, z⟩
    · rw [g] at z; cases z
    · exact z) (fun h1 e => w_150_ok L.2.1 e)
theorem l_150u (L : lo_I xs C h) {c : Nat} (hc : c < 64) (g : mm_gap C.1.2.2.2 c = false) : lo_V xs C h (jx_A 150 [.ref 200, .int (nI (c / 8)), .int (nI (c % 8))] h) (.int (-15)) 1 :=
  lo_no L (c_89 L.1 L.2.1 _ _) (s := eUO) (fun o s => by
    obtain ⟨c', s1, s2⟩ := s
    rw [q_cell_1 s1 (q_rc hc)] at s2
    rcases s2 with ⟨-, z⟩ | ⟨z, -⟩
    · exact z
    · rw [g] at z; cases z) (fun h1 e => w_150_eUO L.2.1 e)
theorem l_150n (L : lo_I xs C h) {y x : Int32} (hq : q_cell y x none) : lo_V xs C h (jx_A 150 [.ref 200, .int y, .int x] h) (.int (-11)) 1 :=
  lo_no L (c_89 L.1 L.2.1 _ _) (s := eIO) (fun o s => by obtain ⟨c', s1, s2⟩ := s; rw [q_cell_1 s1 hq] at s2; exact s2) (fun h1 e => w_150_eIO L.2.1 e)
end LO
end JX
