/-! The board as a state: its changes. -/
section JX
abbrev mm_T : Type := Nat × Nat × (Nat → fg_T) × (Nat → Option fg_T)
def bd_R (h : jx_H) (a : Nat) (M : mm_T) : Prop := ∃ p A g, bd_I h a M.1 M.2.1 p A g ∧ bd_W M.1 p A g ∧ (∀ k, k < M.1 → A (p k) = M.2.2.1 k) ∧ (∀ c, c < 64 → bd_o A g c = M.2.2.2 c)
theorem mz_in_eq {α : Type} {n : Nat} {f g : Nat → α} (h : ∀ i, i < n → f i = g i) {i : Nat} (hi : i < n) : f i = g i := h i hi
theorem mm_nb_cong {o o' : Nat → Option fg_T} (h : ∀ c, c < 64 → o c = o' c) {c s : Nat} (hc : c < 64) (hs : s < 4) : (mz_bs c s).bind o = (mz_bs c s).bind o' := by
  cases e : mz_bs c s with
  | none => rfl
  | some c' => exact h c' (mz_bs64 hc hs e)
theorem mm_ct_cong {o o' : Nat → Option fg_T} (h : ∀ c, c < 64 → o c = o' c) {c s : Nat} (hc : c < 64) (hs : s < 4) : mm_ct o c s = mm_ct o' c s := by
  unfold mm_ct
  rw [h c hc, mm_nb_cong h hc hs]
theorem mm_nc_cong {o o' : Nat → Option fg_T} (h : ∀ c, c < 64 → o c = o' c) {c : Nat} (hc : c < 64) : mm_nc o c = mm_nc o' c := mz_su_cong (fun s hs => by rw [mm_nb_cong h hc hs])
theorem mm_gap_cong {o o' : Nat → Option fg_T} (h : ∀ c, c < 64 → o c = o' c) {c : Nat} (hc : c < 64) : mm_gap o c = mm_gap o' c := by
  unfold mm_gap
  rw [h c hc, mm_nc_cong h hc]
theorem mm_ms_cong {o o' : Nat → Option fg_T} (h : ∀ c, c < 64 → o c = o' c) {kd c : Nat} (hc : c < 64) : mm_ms o kd c = mm_ms o' kd c := mz_su_cong (fun s hs => by rw [mm_ct_cong h hc hs])
theorem mm_es_cong {o o' : Nat → Option fg_T} (h : ∀ c, c < 64 → o c = o' c) {kd : Nat} {f : fg_T} (hf : fg_ce f ≤ 64) : mm_es o kd f = mm_es o' kd f := by
  unfold mm_es
  split
  · rfl
  · rename_i c e
    rw [mm_ct_cong h (by omega) (by decide), mm_ct_cong h (by omega) (by decide)]
theorem bd_fd_cong {n : Nat} {F F' : Nat → fg_T} {v : Int32} {o : Option Nat} (h : ∀ k, k < n → F k = F' k) (q : bd_fd n F v o) : bd_fd n F' v o := by
  cases o with
  | none => exact fun j hj => by rw [← h j hj]; exact q j hj
  | some k => exact ⟨q.1, by rw [← h k q.1]; exact q.2.1, fun j hj => by rw [← h j (Nat.lt_trans hj q.1)]; exact q.2.2 j hj⟩
def mm_fd (M : mm_T) (v : Int32) (o : Option Nat) : Prop := bd_fd M.1 M.2.2.1 v o
/-- the pairs of neighbours that fit (1) or clash (2) -/
def mm_pr (M : mm_T) (kd : Nat) : Nat := mz_su (fun k => mm_es M.2.2.2 kd (M.2.2.1 k)) M.1
def mm_del (F : Nat → fg_T) (k : Nat) : Nat → fg_T := fun j => if j < k then F j else F (j + 1)
/-- a fragment in place of another one, wherever it is -/
def mm_rp (M : mm_T) (k : Nat) (f : fg_T) : mm_T := (M.1, M.2.1, mz_up M.2.2.1 k f, match fg_ce (M.2.2.1 k) with | 0 => M.2.2.2 | c + 1 => mz_up M.2.2.2 c (some f))
def mm_put (M : mm_T) (k c : Nat) : mm_T := (M.1, M.2.1, mz_up M.2.2.1 k (fg_sce (M.2.2.1 k) (c + 1)), mz_up M.2.2.2 c (some (fg_sce (M.2.2.1 k) (c + 1))))
def mm_tk (M : mm_T) (k c : Nat) : mm_T := (M.1, M.2.1, mz_up M.2.2.1 k (fg_sce (M.2.2.1 k) 0), mz_up M.2.2.2 c none)
def mm_sw (M : mm_T) (k l c d : Nat) : mm_T := (M.1, M.2.1, mz_up (mz_up M.2.2.1 k (fg_sce (M.2.2.1 k) (d + 1))) l (fg_sce (M.2.2.1 l) (c + 1)), mz_up (mz_up M.2.2.2 d (some (fg_sce (M.2.2.1 k) (d + 1)))) c (some (fg_sce (M.2.2.1 l) (c + 1))))
def mm_add (M : mm_T) (c e0 e1 e2 e3 : Nat) : mm_T := (M.1 + 1, M.2.1 + 1, mz_up M.2.2.1 M.1 (M.2.1, c, e0, e1, e2, e3, 0, 0), M.2.2.2)
def mm_drop (M : mm_T) (k : Nat) : mm_T := (M.1 - 1, M.2.1, mm_del M.2.2.1 k, M.2.2.2)
-- the changes: when they succeed, with what answer and what state; when they are refused, and how
def ok_add (M : mm_T) (c n e s w r : Int32) (M' : mm_T) : Prop := ∃ c' n' e' s' w' : Nat, (c = nI c' ∧ 97 ≤ c' ∧ c' ≤ 102) ∧ (n = nI n' ∧ n' ≤ 15) ∧ (e = nI e' ∧ e' ≤ 15) ∧ (s = nI s' ∧ s' ≤ 15) ∧ (w = nI w' ∧ w' ≤ 15) ∧ M.1 < 20 ∧ r = nI M.2.1 ∧ M' = mm_add M c' n' e' s' w'
def no_add (M : mm_T) (c n e s w r : Int32) : Prop :=
  (((∀ j, 97 ≤ j → j ≤ 102 → c ≠ nI j) ∨ (∀ j, j ≤ 15 → n ≠ nI j) ∨ (∀ j, j ≤ 15 → e ≠ nI j) ∨ (∀ j, j ≤ 15 → s ≠ nI j) ∨ (∀ j, j ≤ 15 → w ≠ nI j)) ∧ r = -3) ∨
  ((∃ j, 97 ≤ j ∧ j ≤ 102 ∧ c = nI j) ∧ (∃ j, j ≤ 15 ∧ n = nI j) ∧ (∃ j, j ≤ 15 ∧ e = nI j) ∧ (∃ j, j ≤ 15 ∧ s = nI j) ∧ (∃ j, j ≤ 15 ∧ w = nI j) ∧ M.1 = 20 ∧ r = -4)
def ok_drop (M : mm_T) (v r : Int32) (M' : mm_T) : Prop := ∃ k, mm_fd M v (some k) ∧ fg_on (M.2.2.1 k) = false ∧ r = nI (M.1 - 1) ∧ M' = mm_drop M k
def no_drop (M : mm_T) (v r : Int32) : Prop := (mm_fd M v none ∧ r = -1) ∨ (∃ k, mm_fd M v (some k) ∧ fg_on (M.2.2.1 k) = true ∧ r = -4)
def ok_put (M : mm_T) (v y x r : Int32) (M' : mm_T) : Prop := ∃ k i j, mm_fd M v (some k) ∧ y = nI i ∧ i ≤ 7 ∧ x = nI j ∧ j ≤ 7 ∧ fg_on (M.2.2.1 k) = false ∧ M.2.2.2 (8 * i + j) = none ∧ r = nI (mm_ms M'.2.2.2 1 (8 * i + j)) ∧ M' = mm_put M k (8 * i + j)
def no_put (M : mm_T) (v y x r : Int32) : Prop := (mm_fd M v none ∧ r = -1) ∨ (∃ k, mm_fd M v (some k) ∧ (((∀ i, i ≤ 7 → y ≠ nI i) ∨ (∀ i, i ≤ 7 → x ≠ nI i)) ∧ r = -2 ∨ ∃ i j, y = nI i ∧ i ≤ 7 ∧ x = nI j ∧ j ≤ 7 ∧ (fg_on (M.2.2.1 k) = true ∨ (M.2.2.2 (8 * i + j)).isSome = true) ∧ r = -4))
def ok_take (M : mm_T) (v r : Int32) (M' : mm_T) : Prop := ∃ k c, mm_fd M v (some k) ∧ c < 64 ∧ fg_ce (M.2.2.1 k) = c + 1 ∧ r = nI (mm_ms M.2.2.2 1 c) ∧ M' = mm_tk M k c
def no_take (M : mm_T) (v r : Int32) : Prop := (mm_fd M v none ∧ r = -1) ∨ (∃ k, mm_fd M v (some k) ∧ fg_on (M.2.2.1 k) = false ∧ r = -4)
def ok_turn (M : mm_T) (v t r : Int32) (M' : mm_T) : Prop := ∃ k t', mm_fd M v (some k) ∧ t = nI t' ∧ t' ≤ 3 ∧ r = nI (fg_tn (M.2.2.1 k)) ∧ M' = mm_rp M k (fg_stn (M.2.2.1 k) t')
def no_turn (M : mm_T) (v t r : Int32) : Prop := (mm_fd M v none ∧ r = -1) ∨ (∃ k, mm_fd M v (some k) ∧ (∀ i, i ≤ 3 → t ≠ nI i) ∧ r = -3)
def ok_swap (M : mm_T) (v w r : Int32) (M' : mm_T) : Prop := ∃ k l c d, mm_fd M v (some k) ∧ mm_fd M w (some l) ∧ k ≠ l ∧ c < 64 ∧ d < 64 ∧ fg_ce (M.2.2.1 k) = c + 1 ∧ fg_ce (M.2.2.1 l) = d + 1 ∧ r = nI (mm_pr M' 1) ∧ M' = mm_sw M k l c d
def no_swap (M : mm_T) (v w r : Int32) : Prop := ((mm_fd M v none ∨ mm_fd M w none) ∧ r = -1) ∨ (∃ k, mm_fd M v (some k) ∧ mm_fd M w (some k) ∧ r = -3) ∨ (∃ k l, mm_fd M v (some k) ∧ mm_fd M w (some l) ∧ k ≠ l ∧ (fg_on (M.2.2.1 k) = false ∨ fg_on (M.2.2.1 l) = false) ∧ r = -4)
-- tests of numbers
theorem m_126r (v : Int32) (N : Nat) (hN : N < 1000) (h : jx_H) : (∃ j, j ≤ N ∧ v = nI j ∧ jx_A 126 [.int v, .int (nI N)] h = some (.inl (some (.int 1)), h)) ∨ ((∀ j, j ≤ N → v ≠ nI j) ∧ jx_A 126 [.int v, .int (nI N)] h = some (.inl (some (.int 0)), h)) := by
  rw [m_126]
  by_cases c : 0 ≤ v ∧ v ≤ nI N
  · rw [decide_eq_true c.1, decide_eq_true c.2]
    obtain ⟨j, h1, h2⟩ := nI_of2 (nI_toInt (show N < 2 ^ 31 by omega)) (fun q => Int32.lt_irrefl (Int32.lt_of_lt_of_le q c.1)) c.2
    exact Or.inl ⟨j, h1, h2, rfl⟩
  · refine Or.inr ⟨fun j hj e => c (by subst e; exact ⟨nI_pos' (by omega), nI_le hj (by omega)⟩), ?_⟩
    rw [show (decide (0 ≤ v) && decide (v ≤ nI N)) = false by simpa using c]
    rfl
theorem m_127r (v : Int32) (h : jx_H) : (∃ j, 97 ≤ j ∧ j ≤ 102 ∧ v = nI j ∧ jx_A 127 [.int v] h = some (.inl (some (.int 1)), h)) ∨ ((∀ j, 97 ≤ j → j ≤ 102 → v ≠ nI j) ∧ jx_A 127 [.int v] h = some (.inl (some (.int 0)), h)) := by
  rw [m_127]
  by_cases c : 97 ≤ v ∧ v ≤ 102
  · rw [decide_eq_true c.1, decide_eq_true c.2]
    obtain ⟨j, h1, h2⟩ := nI_of2 (show (102 : Int32).toInt = (102 : Nat) by decide) (fun q => Int32.lt_irrefl (Int32.lt_of_lt_of_le (Int32.lt_of_lt_of_le q (by decide : (0 : Int32) ≤ 97)) c.1)) c.2
    subst h2
    exact Or.inl ⟨j, (nI_leI (a := 97) (by decide) (by omega)).mp c.1, h1, rfl, rfl⟩
  · refine Or.inr ⟨fun j hj hj2 e => c (by subst e; exact ⟨nI_le (a := 97) hj (by omega), nI_le (b := 102) hj2 (by omega)⟩), ?_⟩
    rw [show (decide (97 ≤ v) && decide (v ≤ 102)) = false by simpa using c]
    rfl
-- the picture behind a change
section BD
variable {n : Nat} {p : Nat → Nat} {A : Nat → fg_T} {g : Nat → Option Nat}
theorem bd_W_ce {A' : Nat → fg_T} (W : bd_W n p A g) (e : ∀ i, fg_ce (A' i) = fg_ce (A i)) : bd_W n p A' g := ⟨W.1, fun c i hc hg => by rw [e]; exact W.2.1 c i hc hg, fun k c hk h => W.2.2 k c hk (by rw [← e]; exact h)⟩
theorem bd_F_up (W : bd_W n p A g) (hn : n ≤ 20) {F : Nat → fg_T} {k : Nat} {f : fg_T} (hF : ∀ k, k < n → A (p k) = F k) (hk : k < n) : ∀ j, j < n → mz_up A (p k) f (p j) = mz_up F k f j := by
  intro j hj
  unfold mz_up
  by_cases c : j = k
  · subst c; rw [if_pos rfl, if_pos rfl]
  · rw [if_neg (fun e => c (W.1 j k (by omega) (by omega) e)), if_neg c, hF j hj]
theorem bd_o_off (W : bd_W n p A g) {k : Nat} {f : fg_T} (hce : fg_ce (A (p k)) = 0) {c : Nat} (hc : c < 64) : bd_o (mz_up A (p k) f) g c = bd_o A g c := by
  unfold bd_o
  cases e : g c with
  | none => rfl
  | some i =>
    have : i ≠ p k := fun q => by subst q; have := (W.2.1 c _ hc e).1; omega
    show some _ = some _
    rw [mz_up_n this]
theorem bd_o_on (W : bd_W n p A g) {k d : Nat} {f : fg_T} (hk : k < n) (hce : fg_ce (A (p k)) = d + 1) {c : Nat} (hc : c < 64) : bd_o (mz_up A (p k) f) g c = mz_up (bd_o A g) d (some f) c := by
  unfold bd_o
  by_cases q : c = d
  · subst q
    rw [mz_up_s, W.2.2 k c hk hce]
    show some _ = _
    rw [mz_up_s]
  · rw [mz_up_n q]
    cases e : g c with
    | none => rfl
    | some i =>
      have : i ≠ p k := fun z => by subst z; have := (W.2.1 c _ hc e).1; omega
      show some _ = some _
      rw [mz_up_n this]
theorem bd_W_put (W : bd_W n p A g) {k d : Nat} (hk : k < n) (hn : n ≤ 20) (hce : fg_ce (A (p k)) = 0) (hg : g d = none) : bd_W n p (mz_up A (p k) (fg_sce (A (p k)) (d + 1))) (mz_up g d (some (p k))) := by
  refine ⟨W.1, fun c i hc e => ?_, fun j c hj e => ?_⟩
  · by_cases q : c = d
    · subst q
      rw [mz_up_s] at e
      cases e
      rw [mz_up_s]
      exact ⟨rfl, k, hk, rfl⟩
    · rw [mz_up_n q] at e
      have w := W.2.1 c i hc e
      have : i ≠ p k := fun z => by subst z; omega
      rw [mz_up_n this]
      exact w
  · by_cases q : j = k
    · subst q
      rw [mz_up_s] at e
      have : d = c := Nat.succ.inj e
      subst this
      rw [mz_up_s]
    · have : p j ≠ p k := fun z => q (W.1 j k (by omega) (by omega) z)
      rw [mz_up_n this] at e
      have w := W.2.2 j c hj e
      rw [mz_up_n (fun z => by subst z; rw [hg] at w; cases w)]
      exact w
theorem bd_o_put {k d : Nat} {f : fg_T} (W : bd_W n p A g) (hce : fg_ce (A (p k)) = 0) {c : Nat} (hc : c < 64) : bd_o (mz_up A (p k) f) (mz_up g d (some (p k))) c = mz_up (bd_o A g) d (some f) c := by
  by_cases q : c = d
  · subst q
    unfold bd_o
    rw [mz_up_s, mz_up_s]
    show some _ = _
    rw [mz_up_s]
  · rw [mz_up_n q, ← bd_o_off W (f := f) hce hc]
    unfold bd_o
    rw [mz_up_n q]
theorem bd_W_tk (W : bd_W n p A g) {k d : Nat} (hk : k < n) (hn : n ≤ 20) (hce : fg_ce (A (p k)) = d + 1) (hd : d < 64) : bd_W n p (mz_up A (p k) (fg_sce (A (p k)) 0)) (mz_up g d none) := by
  have wd := W.2.2 k d hk hce
  refine ⟨W.1, fun c i hc e => ?_, fun j c hj e => ?_⟩
  · by_cases q : c = d
    · subst q; rw [mz_up_s] at e; cases e
    · rw [mz_up_n q] at e
      have w := W.2.1 c i hc e
      have : i ≠ p k := fun z => by subst z; omega
      rw [mz_up_n this]
      exact w
  · by_cases q : j = k
    · subst q
      rw [mz_up_s] at e
      cases e
    · have : p j ≠ p k := fun z => q (W.1 j k (by omega) (by omega) z)
      rw [mz_up_n this] at e
      have w := W.2.2 j c hj e
      rw [mz_up_n (fun z => by subst z; rw [wd] at w; exact this (Option.some.inj w).symm)]
      exact w
theorem bd_o_tk (W : bd_W n p A g) {k d : Nat} {f : fg_T} (hce : fg_ce (A (p k)) = d + 1) {c : Nat} (hc : c < 64) : bd_o (mz_up A (p k) f) (mz_up g d none) c = mz_up (bd_o A g) d none c := by
  by_cases q : c = d
  · subst q
    unfold bd_o
    rw [mz_up_s, mz_up_s]; rfl
  · rw [mz_up_n q]
    unfold bd_o
    rw [mz_up_n q]
    cases e : g c with
    | none => rfl
    | some i =>
      have : i ≠ p k := fun z => by subst z; have := (W.2.1 c _ hc e).1; omega
      show some _ = some _
      rw [mz_up_n this]
end BD
end JX
