/-! Ranks are a numbering of the tray; places in the tray too. -/
section JX
/-- k is asked ahead of j -/
def rk_b (tw : Nat → Int) (k j : Nat) : Prop := tw j < tw k ∨ (tw k = tw j ∧ k < j)
def rk_q (tw : Nat → Int) (k j : Nat) : Bool := decide (tw j < tw k) || (decide (tw k = tw j) && Nat.blt k j)
theorem rk_qb {tw : Nat → Int} {k j : Nat} : rk_q tw k j = true ↔ rk_b tw k j := by
  unfold rk_q rk_b
  rw [Bool.or_eq_true, Bool.and_eq_true, decide_eq_true_eq, decide_eq_true_eq]
  exact ⟨fun h => h.imp id (fun q => ⟨q.1, Nat.blt_eq.mp q.2⟩), fun h => h.imp id (fun q => ⟨q.1, Nat.blt_eq.mpr q.2⟩)⟩
theorem rk_t {tw : Nat → Int} {i k j : Nat} (h1 : rk_b tw i k) (h2 : rk_b tw k j) : rk_b tw i j := by
  unfold rk_b at *
  omega
theorem rk_tot {tw : Nat → Int} {k j : Nat} (h : k ≠ j) : rk_b tw k j ∨ rk_b tw j k := by
  unfold rk_b
  omega
theorem rk_irr {tw : Nat → Int} {k : Nat} : ¬ rk_b tw k k := by
  unfold rk_b
  omega
section RK
variable {n : Nat} {F : Nat → fg_T} {tw : Nat → Int}
theorem mm_rk_e (k : Nat) : mm_rk n F tw k = mz_su (fun j => (!fg_on (F j) && rk_q tw j k).toNat) n := rfl
/-- how many are loose -/
def lo_n (n : Nat) (F : Nat → fg_T) : Nat := mz_su (fun k => (!fg_on (F k)).toNat) n
theorem rk_lt {k j : Nat} (hk : k < n) (lk : fg_on (F k) = false) (h : rk_b tw k j) : mm_rk n F tw k < mm_rk n F tw j := by
  rw [mm_rk_e, mm_rk_e]
  have e := mz_su_rm (Q := fun d => !fg_on (F d) && rk_q tw d j) (c := k) (m := n) hk (by rw [lk, rk_qb.mpr h]; rfl)
  have := mz_inj_le (P := fun d => !fg_on (F d) && rk_q tw d k) (fun d => d) (n := n) (m := n) (Q := fun d => (!fg_on (F d) && rk_q tw d j) && !(d == k)) (fun d hd q => by
    have q := Bool.and_eq_true_iff.mp q
    refine ⟨hd, ?_⟩
    have b1 := rk_qb.mp q.2
    rw [q.1, rk_qb.mpr (rk_t b1 h), beq_eq_false_iff_ne.mpr (fun z => by subst z; exact rk_irr b1)]
    rfl) (fun _ _ _ _ _ _ z => z)
  omega
theorem rk_le {k j : Nat} (hk : k < n) (hj : j < n) (lk : fg_on (F k) = false) (lj : fg_on (F j) = false) (h : mm_rk n F tw k < mm_rk n F tw j) : rk_b tw k j := by
  by_cases z : k = j
  · subst z; omega
  · rcases rk_tot (tw := tw) z with q | q
    · exact q
    · have := rk_lt hj lj q; omega
theorem rk_1 {k j : Nat} (hk : k < n) (hj : j < n) (lk : fg_on (F k) = false) (lj : fg_on (F j) = false) (h : mm_rk n F tw k = mm_rk n F tw j) : k = j := by
  by_cases z : k = j
  · exact z
  · rcases rk_tot (tw := tw) z with q | q
    · have := rk_lt hk lk q; omega
    · have := rk_lt hj lj q; omega
theorem rk_n {k : Nat} (hk : k < n) (lk : fg_on (F k) = false) : mm_rk n F tw k < lo_n n F := by
  rw [mm_rk_e]
  have e := mz_su_rm (Q := fun d => !fg_on (F d)) (c := k) (m := n) hk (by rw [lk]; rfl)
  have := mz_inj_le (P := fun d => !fg_on (F d) && rk_q tw d k) (fun d => d) (n := n) (m := n) (Q := fun d => !fg_on (F d) && !(d == k)) (fun d hd q => by
    have q := Bool.and_eq_true_iff.mp q
    refine ⟨hd, ?_⟩
    rw [q.1, beq_eq_false_iff_ne.mpr (fun z => by subst z; exact rk_irr (rk_qb.mp q.2))]
    rfl) (fun _ _ _ _ _ _ z => z)
  unfold lo_n
  omega
theorem mz_su_1 : ∀ m, mz_su (fun _ => 1) m = m
  | 0 => rfl
  | m + 1 => congrArg (· + 1) (mz_su_1 m)
/-- a numbering below the count hits every number -/
theorem rk_sur (f : Nat → Nat) (h1 : ∀ k, k < n → fg_on (F k) = false → f k < lo_n n F) (h2 : ∀ k j, k < n → j < n → fg_on (F k) = false → fg_on (F j) = false → f k = f j → k = j) {r : Nat} (hr : r < lo_n n F) : ∃ k, k < n ∧ fg_on (F k) = false ∧ f k = r := by
  by_cases z : ∃ k, k < n ∧ fg_on (F k) = false ∧ f k = r
  · exact z
  exfalso
  have lf : ∀ {k}, (!fg_on (F k)) = true → fg_on (F k) = false := fun q => by
    revert q
    cases fg_on (F _) <;> decide
  have := mz_inj_le (P := fun d => !fg_on (F d)) f (n := n) (m := lo_n n F) (Q := fun d => true && !(d == r)) (fun k hk q => by
    refine ⟨h1 k hk (lf q), ?_⟩
    rw [beq_eq_false_iff_ne.mpr (fun e => z ⟨k, hk, lf q, e⟩)]
    rfl) (fun k j hk hj q1 q2 e => h2 k j hk hj (lf q1) (lf q2) e)
  have e := mz_su_rm (Q := fun _ => true) (c := r) (m := lo_n n F) hr rfl
  have e2 : mz_su (fun _ => (true : Bool).toNat) (lo_n n F) = lo_n n F := mz_su_1 _
  have e3 : mz_su (fun k => (!fg_on (F k)).toNat) n = lo_n n F := rfl
  omega
theorem rk_ex {r : Nat} (hr : r < lo_n n F) : ∃ k, k < n ∧ fg_on (F k) = false ∧ mm_rk n F tw k = r :=
  rk_sur (mm_rk n F tw) (fun _ hk lk => rk_n hk lk) (fun _ _ hk hj lk lj e => rk_1 hk hj lk lj e) hr
-- places in the tray
theorem lo_mono {k : Nat} : ∀ {m : Nat}, k < m → fg_on (F k) = false → lo_n k F < lo_n m F
  | 0, h, _ => absurd h (Nat.not_lt_zero _)
  | m + 1, h, e => by
    show _ < lo_n m F + (!fg_on (F m)).toNat
    by_cases z : k = m
    · subst z; rw [e]; exact Nat.lt_succ_self _
    · have := lo_mono (k := k) (m := m) (by omega) e; omega
theorem lo_ex {r : Nat} (hr : r < lo_n n F) : ∃ k, k < n ∧ fg_on (F k) = false ∧ lo_n k F = r :=
  rk_sur (fun k => lo_n k F) (fun _ hk lk => lo_mono hk lk) (fun k j hk hj lk lj e => by
    rcases Nat.lt_trichotomy k j with q | q | q
    · have := lo_mono q lk; omega
    · exact q
    · have := lo_mono q lj; omega) hr
theorem lo_lt {k j : Nat} (lk : fg_on (F k) = false) (lj : fg_on (F j) = false) (h : lo_n k F < lo_n j F) : k < j := by
  rcases Nat.lt_trichotomy k j with q | q | q
  · exact q
  · subst q; omega
  · have := lo_mono q lj; omega
theorem lo_le (n : Nat) (F : Nat → fg_T) : lo_n n F ≤ n := by
  have := mz_su_le (f := fun k => (!fg_on (F k)).toNat) (b := 1) (n := n) (fun k _ => by cases fg_on (F k) <;> decide)
  unfold lo_n
  omega
end RK
end JX
