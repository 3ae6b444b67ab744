/-! What the law asks of neighbours: beside, isGap, contact, contacts, pairs. -/
section JX
theorem q_cell_1 {y x : Int32} {a b : Option Nat} (p : q_cell y x a) (q : q_cell y x b) : a = b := by
  cases a with
  | none =>
    cases b with
    | none => rfl
    | some c =>
      obtain ⟨i, j, rfl, hi, rfl, hj, -⟩ := q
      rcases p with p | p
      · exact absurd rfl (p i hi)
      · exact absurd rfl (p j hj)
  | some c =>
    obtain ⟨i, j, rfl, hi, rfl, hj, rfl⟩ := p
    cases b with
    | none =>
      rcases q with q | q
      · exact absurd rfl (q i hi)
      · exact absurd rfl (q j hj)
    | some d =>
      obtain ⟨i', j', e1, hi', e2, hj', rfl⟩ := q
      have e1 := (nI_eq (by omega) (by omega)).mp e1
      have e2 := (nI_eq (by omega) (by omega)).mp e2
      rw [e1, e2]
theorem q_rng_1 {v : Int32} {N : Nat} {a b : Option Nat} (hN : N < 1000) (p : q_rng v N a) (q : q_rng v N b) : a = b := by
  cases a with
  | none =>
    cases b with
    | none => rfl
    | some j => exact absurd q.1 (p j q.2)
  | some i =>
    cases b with
    | none => exact absurd p.1 (q i p.2)
    | some j =>
      have h1 := p.1.symm.trans q.1
      have h2 := p.2
      have h3 := q.2
      rw [(nI_eq (by omega) (by omega)).mp h1]
/-- a state of the drawn kind: each id is its place -/
def dr_I (M : mm_T) : Prop := mm_C M ∧ M.1 ≤ 20 ∧ (∀ k, k < M.1 → fg_ok (M.2.2.1 k)) ∧ ∀ k, k < M.1 → fg_id (M.2.2.1 k) = k
/-- a fragment of the catalogue -/
def pd (M : mm_T) (f : fg_T) : Prop := ∃ k, k < M.1 ∧ M.2.2.1 k = f ∧ fg_id f = k
section DR
variable {M : mm_T}
theorem q_fd (D : dr_I M) {k : Nat} (hk : k < M.1) {t : Option Nat} (q : mm_fd M (nI k) t) : t = some k := by
  have := D.2.1
  cases t with
  | none => exact absurd (by rw [D.2.2.2 k hk]) (q k hk)
  | some j =>
    have h1 := q.1
    have h2 := q.2.1
    rw [D.2.2.2 j h1] at h2
    rw [(nI_eq (by omega) (by omega)).mp h2]
theorem q_fd0 (D : dr_I M) {v : Int32} (hv : ∀ k, k < M.1 → v ≠ nI k) {t : Option Nat} (q : mm_fd M v t) : t = none := by
  cases t with
  | none => rfl
  | some j =>
    have h2 := q.2.1
    rw [D.2.2.2 j q.1] at h2
    exact absurd h2.symm (hv j q.1)
theorem dr_pd (D : dr_I M) {k : Nat} (hk : k < M.1) : pd M (M.2.2.1 k) := ⟨k, hk, rfl, D.2.2.2 k hk⟩
theorem dr_at (D : dr_I M) {c : Nat} {f : fg_T} (hc : c < 64) (e : M.2.2.2 c = some f) : pd M f ∧ fg_on f = true ∧ mm_cl f = c := by
  obtain ⟨k, h1, h2, h3, h4⟩ := D.1.2.1 c f hc e
  exact ⟨⟨k, h1, h2, by rw [← h2]; exact D.2.2.2 k h1⟩, h3, h4⟩
theorem pd_ok (D : dr_I M) {f : fg_T} (P : pd M f) : fg_ok f ∧ fg_id f < 20 := by
  obtain ⟨k, h1, h2, h3⟩ := P
  have := D.2.1
  exact ⟨h2 ▸ D.2.2.1 k h1, by omega⟩
end DR
/-- what 'at' says of a cell, or of a place out of the grid -/
def lb (M : mm_T) (c : Option Nat) : Int32 := match c with
  | none => -11
  | some d => match M.2.2.2 d with | none => -13 | some f => nI (fg_id f)
section LO
variable {xs : List Int32} {C : cl_T} {h : jx_H}
theorem l_147 (L : lo_I xs C h) {y x : Int32} {c : Option Nat} (q : q_cell y x c) : lo_V xs C h (jx_A 147 [.ref 200, .int y, .int x] h) (.int (lb C.1 c)) 1 := by
  cases c with
  | none => exact lo_no L (c_79 L.2.1 y x) (s := eIO) (fun o s => by obtain ⟨c, s1, s2⟩ := s; rw [q_cell_1 s1 q] at s2; exact s2) (fun h1 e => w_147_eIO L.2.1 e)
  | some d =>
    have key : ∀ o, sp_fat C.1 y x o → o = match C.1.2.2.2 d with | some f => .inl (.int (nI (fg_id f))) | none => .inr eNS := fun o s => by
      obtain ⟨c, s1, s2⟩ := s; rw [q_cell_1 s1 q] at s2; exact s2
    show lo_V xs C h _ (.int (match C.1.2.2.2 d with | none => -13 | some f => nI (fg_id f))) 1
    cases e : C.1.2.2.2 d with
    | none => rw [e] at key; exact lo_no L (c_79 L.2.1 y x) key (fun h1 e => w_147_eNS L.2.1 e)
    | some f => rw [e] at key; exact lo_wd (lo_ok L (c_79 L.2.1 y x) key (fun h1 e => w_147_ok L.2.1 e)) (by decide)
theorem l_146 (L : lo_I xs C h) {y x : Int32} {c : Nat} (q : q_cell y x (some c)) : lo_V xs C h (jx_A 146 [.ref 200, .int y, .int x] h) (.int (bI (C.1.2.2.2 c).isNone)) 0 :=
  lo_ok L (c_78 L.2.1 y x) (fun o s => by obtain ⟨c', s1, s2⟩ := s; rw [q_cell_1 s1 q] at s2; exact s2) (fun h1 e => w_146_ok L.2.1 e)
theorem l_146n (L : lo_I xs C h) {y x : Int32} (q : q_cell y x none) : lo_V xs C h (jx_A 146 [.ref 200, .int y, .int x] h) (.int (-11)) 1 :=
  lo_no L (c_78 L.2.1 y x) (fun o s => by obtain ⟨c', s1, s2⟩ := s; rw [q_cell_1 s1 q] at s2; exact s2) (fun h1 e => w_146_eIO L.2.1 e)
/-- a cell's row and column -/
theorem q_rc {c : Nat} (hc : c < 64) : q_cell (nI (c / 8)) (nI (c % 8)) (some c) := ⟨c / 8, c % 8, rfl, by omega, rfl, by omega, by omega⟩
def lb_ck (c s : Nat) : Bool := match mz_bs c s with
  | some d => decide (nI (c / 8) + ((nI s - 1) - (nI s - 1) / 2 * 2) = nI (d / 8)) && decide (nI (c % 8) + ((2 - nI s) - (2 - nI s) / 2 * 2) = nI (d % 8)) && decide (d < 64)
  | none => decide (∀ i : Nat, i < 8 → nI (c / 8) + ((nI s - 1) - (nI s - 1) / 2 * 2) ≠ nI i) || decide (∀ i : Nat, i < 8 → nI (c % 8) + ((2 - nI s) - (2 - nI s) / 2 * 2) ≠ nI i)
theorem lb_ok : ∀ c, c < 64 → ∀ s, s < 4 → lb_ck c s = true := by decide +kernel
theorem q_bs {c s : Nat} (hc : c < 64) (hs : s < 4) : q_cell (nI (c / 8) + ((nI s - 1) - (nI s - 1) / 2 * 2)) (nI (c % 8) + ((2 - nI s) - (2 - nI s) / 2 * 2)) (mz_bs c s) := by
  have := lb_ok c hc s hs
  unfold lb_ck at this
  cases e : mz_bs c s with
  | none =>
    rw [e] at this
    simp only [Bool.or_eq_true, decide_eq_true_eq] at this
    exact this.imp (fun q i hi => q i (by omega)) (fun q i hi => q i (by omega))
  | some d =>
    rw [e] at this
    simp only [Bool.and_eq_true, decide_eq_true_eq] at this
    obtain ⟨⟨h1, h2⟩, h3⟩ := this
    exact ⟨d / 8, d % 8, h1, by omega, h2, by omega, by omega⟩
theorem l_169 (L : lo_I xs C h) {c s : Nat} (hc : c < 64) (hs : s < 4) : lo_V xs C h (jx_A 169 [.ref 200, .int (nI (c / 8)), .int (nI (c % 8)), .int (nI s)] h) (.int (lb C.1 (mz_bs c s))) 1 := by
  rw [a_169]
  exact lo_cI (l_147 L (q_bs hc hs)) (Nat.le_refl _) (fun h1 L1 => lo_rt L1 _)
/-- a loop of the law -/
theorem lo_lp {γ : Type} (E : Nat → γ → jx_H → jx_R) (n : Nat) (N N0 : Nat) (v : Value) (I : Nat → γ → Prop)
    (h0 : ∀ g h, I n g → lo_I xs C h → lo_V xs C h (E n g h) v N0)
    (hs : ∀ i g h B, i < n → I i g → lo_I xs C h → (∀ g' h', I (i + 1) g' → lo_I xs C h' → lo_V xs C h' (E (i + 1) g' h') v B) → lo_V xs C h (E i g h) v (N + B)) :
    ∀ i g h, i ≤ n → I i g → lo_I xs C h → lo_V xs C h (E i g h) v (n * N + N0) := by
  have key : ∀ (k i : Nat) (g : γ) (h : jx_H), i + k = n → I i g → lo_I xs C h → lo_V xs C h (E i g h) v (k * N + N0) := by
    intro k
    induction k with
    | zero => intro i g h e hI L; have : i = n := by omega
              subst this; rw [Nat.zero_mul, Nat.zero_add]; exact h0 g h hI L
    | succ k ih =>
      intro i g h e hI L
      refine lo_wd (hs i g h (k * N + N0) (by omega) hI L (fun g' h' I' L' => ih (i + 1) g' h' (by omega) I' L')) ?_
      rw [Nat.add_mul, Nat.one_mul]; omega
  intro i g h hi hI L
  refine lo_wd (key (n - i) i g h (by omega) hI L) ?_
  have : (n - i) * N ≤ n * N := Nat.mul_le_mul_right _ (by omega)
  omega
theorem lb_neg (D : dr_I C.1) {c : Option Nat} (hc : ∀ d, c = some d → d < 64) : (lb C.1 c < 0 ∧ c.bind C.1.2.2.2 = none) ∨ ∃ f, c.bind C.1.2.2.2 = some f ∧ pd C.1 f ∧ lb C.1 c = nI (fg_id f) ∧ ¬ lb C.1 c < 0 := by
  cases c with
  | none => exact Or.inl ⟨show (-11 : Int32) < 0 by decide, rfl⟩
  | some d =>
    show ((match C.1.2.2.2 d with | none => (-13 : Int32) | some f => nI (fg_id f)) < 0 ∧ C.1.2.2.2 d = none) ∨ ∃ f, C.1.2.2.2 d = some f ∧ pd C.1 f ∧ (match C.1.2.2.2 d with | none => (-13 : Int32) | some f => nI (fg_id f)) = nI (fg_id f) ∧ ¬ (match C.1.2.2.2 d with | none => (-13 : Int32) | some f => nI (fg_id f)) < 0
    cases e : C.1.2.2.2 d with
    | none => exact Or.inl ⟨by decide, rfl⟩
    | some f =>
      obtain ⟨P, -⟩ := dr_at D (hc d rfl) e
      have := (pd_ok D P).2
      exact Or.inr ⟨f, rfl, P, rfl, nI_pos (by omega)⟩
theorem lb_bs {c s : Nat} (hc : c < 64) (hs : s < 4) : ∀ d, mz_bs c s = some d → d < 64 := fun d e => mz_bs64 hc hs e
/-- whether one of the first sides has a neighbour -/
def lg_any (o : Nat → Option fg_T) (c : Nat) : Nat → Bool | 0 => false | n + 1 => lg_any o c n || ((mz_bs c n).bind o).isSome
theorem lg_gap {o : Nat → Option fg_T} {c : Nat} : ((o c).isNone && lg_any o c 4) = mm_gap o c := by
  unfold mm_gap
  have : lg_any o c 4 = Nat.blt 0 (mm_nc o c) := by
    show ((((false || ((mz_bs c 0).bind o).isSome) || ((mz_bs c 1).bind o).isSome) || ((mz_bs c 2).bind o).isSome) || ((mz_bs c 3).bind o).isSome) = Nat.blt 0 (0 + ((mz_bs c 0).bind o).isSome.toNat + ((mz_bs c 1).bind o).isSome.toNat + ((mz_bs c 2).bind o).isSome.toNat + ((mz_bs c 3).bind o).isSome.toNat)
    cases ((mz_bs c 0).bind o).isSome <;> cases ((mz_bs c 1).bind o).isSome <;> cases ((mz_bs c 2).bind o).isSome <;> cases ((mz_bs c 3).bind o).isSome <;> rfl
  rw [this]
theorem l_170 (L : lo_I xs C h) (D : dr_I C.1) {c : Nat} (hc : c < 64) : lo_V xs C h (jx_A 170 [.ref 200, .int (nI (c / 8)), .int (nI (c % 8))] h) (.int (bI (mm_gap C.1.2.2.2 c))) 4 := by
  rw [a_170]
  refine lo_wd (lo_lp (γ := Unit) (fun i _ h => jx_E 170 5 [.ref 200, .int (nI (c / 8)), .int (nI (c % 8)), .int (bI (lg_any C.1.2.2.2 c i)), .int (nI i)] [] h) 4 1 0 _ (fun _ _ => True) ?_ ?_ 0 () h (by decide) trivial L) (by decide)
  · intro _ h _ L
    show lo_V xs C h (jx_E 170 5 _ _ _) _ 0
    rw [b_170_5, if_pos (by decide), ← lg_gap]
    cases lg_any C.1.2.2.2 c 4 with
    | false => rw [if_pos (by decide), Bool.and_false]; exact lo_rt L _
    | true =>
      rw [if_neg (by decide), Bool.and_true]
      refine lo_cI (l_146 L (q_rc hc)) (Nat.le_refl _) (fun h1 L1 => ?_)
      cases (C.1.2.2.2 c).isNone with
      | true => rw [if_pos (by decide)]; exact lo_rt L1 _
      | false => rw [if_neg (by decide)]; exact lo_rt L1 _
  · intro i _ h B hi _ L k
    show lo_V xs C h (jx_E 170 5 _ _ _) _ _
    rw [b_170_5, if_neg (show ¬ (4 : Int32) ≤ nI i from nI_ge hi (by decide))]
    have k1 := fun h' L' => k () h' trivial L'
    have e1 : lg_any C.1.2.2.2 c (i + 1) = (lg_any C.1.2.2.2 c i || ((mz_bs c i).bind C.1.2.2.2).isSome) := rfl
    cases e : lg_any C.1.2.2.2 c i with
    | false =>
      rw [if_pos (by decide)]
      refine lo_cI (l_169 L hc hi) (by omega) (fun h1 L1 => ?_)
      have k2 := k1 h1 L1
      rw [e1, e, Bool.false_or] at k2
      rcases lb_neg D (lb_bs hc hi) with ⟨q1, q2⟩ | ⟨f, q1, q2, q3, q4⟩
      · rw [if_pos q1, nI_1]; rw [q2] at k2; exact lo_wd k2 (by omega)
      · rw [if_neg q4, nI_1]; rw [q1] at k2; exact lo_wd k2 (by omega)
    | true =>
      rw [if_neg (by decide), nI_1]
      have k2 := k1 h L
      rw [e1, e, Bool.true_or] at k2
      exact lo_wd k2 (by omega)
end LO
end JX
