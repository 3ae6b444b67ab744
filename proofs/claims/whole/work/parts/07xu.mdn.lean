/-! Ranks, and the other object's questions by rank. -/
section JX
theorem mz_su_lt {f g : Nat → Nat} : ∀ {n k : Nat}, (∀ j, j < n → f j ≤ g j) → k < n → f k < g k → mz_su f n < mz_su g n
  | n + 1, k, h, hk, hl => by
    show mz_su f n + f n < mz_su g n + g n
    have h' : ∀ j, j < n → f j ≤ g j := fun j hj => h j (by omega)
    have hn := h n (Nat.lt_succ_self n)
    by_cases e : k = n
    · subst e
      have : mz_su f k ≤ mz_su g k := by
        clear hl hk hn h
        induction k with
        | zero => exact Nat.le_refl _
        | succ k ih =>
          show mz_su f k + f k ≤ mz_su g k + g k
          have := ih (fun j hj => h' j (by omega))
          have := h' k (Nat.lt_succ_self k)
          omega
      omega
    · have := mz_su_lt (f := f) (g := g) (n := n) (k := k) h' (by omega) hl
      omega
theorem mz_ne1 {m r : Nat} (hr : r < m) : mz_su (fun c => (!(c == r)).toNat) m + 1 = m := by
  have a := mz_su_not (fun c => c == r) m
  have b := mz_su_1 (f := fun c => (c == r).toNat) (j := r) m hr (fun k _ ne => by
    show (k == r).toNat = 0
    rw [show (k == r) = false by simpa using ne]; rfl)
  rw [b] at a
  have c : (r == r).toNat = 1 := by simp
  rw [c] at a
  omega
/-- so many are ahead of k -/
def rk_n (n : Nat) (P : Nat → Bool) (bt : Nat → Nat → Bool) (k : Nat) : Nat := mz_su (fun j => (P j && bt j k).toNat) n
def rk_O (bt : Nat → Nat → Bool) : Prop := (∀ k, bt k k = false) ∧ (∀ i j k, bt i j = true → bt j k = true → bt i k = true) ∧ (∀ j k, j ≠ k → bt j k = true ∨ bt k j = true)
section RK
variable {n : Nat} {P : Nat → Bool} {bt : Nat → Nat → Bool}
theorem rk_lt (O : rk_O bt) {k : Nat} (hk : k < n) (e : P k = true) : rk_n n P bt k < mz_su (fun j => (P j).toNat) n :=
  mz_su_lt (k := k) (fun j _ => by cases P j <;> cases bt j k <;> decide) hk (by rw [O.1 k, e]; decide)
theorem rk_mono (O : rk_O bt) {j k : Nat} (hj : j < n) (e : P j = true) (b : bt j k = true) : rk_n n P bt j < rk_n n P bt k :=
  mz_su_lt (k := j) (fun i _ => by
    cases P i with
    | false => exact Nat.le_refl _
    | true =>
      cases z : bt i j with
      | false => exact Nat.zero_le _
      | true => rw [O.2.1 i j k z b]; exact Nat.le_refl _) hj (by rw [O.1 j, e, b]; decide)
theorem rk_inj (O : rk_O bt) {j k : Nat} (hj : j < n) (hk : k < n) (e1 : P j = true) (e2 : P k = true) (e : rk_n n P bt j = rk_n n P bt k) : j = k := by
  by_cases z : j = k
  · exact z
  · rcases O.2.2 j k z with q | q
    · have := rk_mono (n := n) O hj e1 q; omega
    · have := rk_mono (n := n) O hk e2 q; omega
theorem rk_sur (O : rk_O bt) {r : Nat} (hr : r < mz_su (fun j => (P j).toNat) n) : ∃ k, k < n ∧ P k = true ∧ rk_n n P bt k = r := by
  by_cases z : ∃ k, k < n ∧ P k = true ∧ rk_n n P bt k = r
  · exact z
  · exfalso
    have le := mz_inj_le (P := P) (Q := fun c => !(c == r)) (rk_n n P bt) (n := n) (m := mz_su (fun j => (P j).toNat) n) (fun k hk e => ⟨rk_lt O hk e, by
      have : rk_n n P bt k ≠ r := fun q => z ⟨k, hk, e, q⟩
      simp [this]⟩) (fun k j hk hj e1 e2 e => rk_inj O hk hj e1 e2 e)
    have := mz_ne1 hr
    omega
end RK
theorem rk_Ob : rk_O Nat.blt := ⟨fun k => by rw [Bool.eq_false_iff]; intro w; have := Nat.blt_eq.mp w; omega, fun i j k a b => Nat.blt_eq.mpr (by have := Nat.blt_eq.mp a; have := Nat.blt_eq.mp b; omega), fun j k ne => by
  by_cases z : j < k
  · exact Or.inl (Nat.blt_eq.mpr z)
  · exact Or.inr (Nat.blt_eq.mpr (by omega))⟩
def rk_w (tw : Nat → Int) (j k : Nat) : Bool := decide (tw k < tw j) || (decide (tw j = tw k) && Nat.blt j k)
theorem rk_wb {tw : Nat → Int} {j k : Nat} : rk_w tw j k = true ↔ mm_bb tw j k := by
  unfold rk_w mm_bb
  rw [Bool.or_eq_true, Bool.and_eq_true, decide_eq_true_eq, decide_eq_true_eq, Nat.blt_eq]
theorem rk_Ow (tw : Nat → Int) : rk_O (rk_w tw) := ⟨fun k => by rw [Bool.eq_false_iff]; intro w; exact mm_bb_ir (rk_wb.mp w), fun i j k a b => rk_wb.mpr (mm_bb_tr (rk_wb.mp a) (rk_wb.mp b)), fun j k ne => by
  rw [rk_wb, rk_wb]
  unfold mm_bb
  omega⟩
theorem mm_rk_n (n : Nat) (F : Nat → fg_T) (tw : Nat → Int) (k : Nat) : mm_rk n F tw k = rk_n n (fun j => !fg_on (F j)) (rk_w tw) k := rfl
theorem rk_tr {n : Nat} {P : Nat → Bool} {k : Nat} (hk : k < n) : rk_n n P Nat.blt k = mz_su (fun j => (P j).toNat) k := by
  unfold rk_n
  rw [mz_su_more (n := k) n (by omega) (fun j a b => by rw [show Nat.blt j k = false from by rw [Bool.eq_false_iff]; intro w; have := Nat.blt_eq.mp w; omega, Bool.and_false]; rfl)]
  exact mz_su_cong fun j hj => by rw [show Nat.blt j k = true from Nat.blt_eq.mpr hj, Bool.and_true]
/-- asked for a number: which one has it -/
theorem rk_ask {n : Nat} {P : Nat → Bool} {bt : Nat → Nat → Bool} (O : rk_O bt) (hn : n ≤ 20) (v : Int32) (h : jx_H) :
    (∃ k, k < n ∧ P k = true ∧ nI (rk_n n P bt k) = v ∧ jx_A 135 [.int v, .int 0, .int (nI (mz_su (fun j => (P j).toNat) n) - 1)] h = some (.inl (some (.int 1)), h)) ∨
    ((∀ k, k < n → ¬ (P k = true ∧ nI (rk_n n P bt k) = v)) ∧ jx_A 135 [.int v, .int 0, .int (nI (mz_su (fun j => (P j).toNat) n) - 1)] h = some (.inl (some (.int 0)), h)) := by
  have le : mz_su (fun j => (P j).toNat) n ≤ n * 1 := mz_su_le (fun k _ => by cases P k <;> decide)
  cases e : mz_su (fun j => (P j).toNat) n with
  | zero =>
    right
    refine ⟨fun k hk q => (by have := rk_lt (n := n) O hk q.1; omega), ?_⟩
    rw [m_135]
    by_cases c : 0 ≤ v
    · rw [decide_eq_true c, decide_eq_false (show ¬ v ≤ nI 0 - 1 from fun q => absurd (Int32.le_trans c q) (by decide))]; rfl
    · rw [decide_eq_false c]; rfl
  | succ m =>
    rw [show nI (m + 1) - 1 = nI m from nI_pred m]
    rcases m_135r v m (by omega) h with ⟨j, hj, rfl, q⟩ | ⟨hj, q⟩
    · obtain ⟨k, hk, e1, e2⟩ := rk_sur (P := P) (n := n) O (r := j) (by omega)
      exact Or.inl ⟨k, hk, e1, by rw [e2], q⟩
    · exact Or.inr ⟨fun k hk w => hj (rk_n n P bt k) (by have := rk_lt (n := n) O hk w.1; omega) w.2.symm, q⟩
section RD
variable {h : jx_H} {y : Nat} {S : Nat → Nat} {R : ro_R} {M : mm_T} {th : Int32} {fs : List Value} {n nx : Nat} {p : Nat → Nat} {A : Nat → fg_T} {g : Nat → Option Nat}
theorem m_143n (J : rq_J h y fs S n nx p A g) {k : Nat} (hk : n ≤ k) (hk2 : k < 20) : jx_A 143 [.ref y, .int (nI (p k))] h = some (.inl (some (.int (-1))), h) := by
  rw [a_143, rq_is J, jx_cI_e (show jx_A 140 [.ref y, .int (nI (p k)), .int 0] h = _ from m_140n J hk hk2)]
  rfl
theorem Nat_blt_t {a b : Nat} (h : a < b) : Nat.blt a b = true := Nat.blt_eq.mpr h
theorem Nat_blt_f {a b : Nat} (h : b ≤ a) : Nat.blt a b = false := by rw [Bool.eq_false_iff]; intro w; have := Nat.blt_eq.mp w; omega
/-- so many of the tray have lower ids: the inner loop -/
theorem m_166i (J : rq_J h y fs S n nx p A g) (U : rq_A n p A) {k : Nat} (hk : k < n) (v v2 v3 : Int32) :
    jx_E 166 39 [.ref y, .int v, .int v2, .int v3, .int (nI (p k)), .int 0, .int 0] [] h = jx_E 166 39 [.ref y, .int v, .int v2, .int v3, .int (nI (p k)), .int (nI (rk_n n (fun j => !fg_on (A (p j))) Nat.blt k)), .int 20] [] h := by
  have W := rq_W J
  have hn := rq_n J
  obtain ⟨q, hq⟩ := mz_inv_p (fun k hk => rq_p J hk) W.1
  have e : mz_su (fun j => (Nat.blt (q j) n && (!fg_on (A j) && Nat.blt (q j) k)).toNat) 20 = rk_n n (fun j => !fg_on (A (p j))) Nat.blt k := by
    refine mz_perm (fun k hk => rq_p J hk) W.1 (rq_n J) (P := fun j => !fg_on (A (p j)) && Nat.blt j k) (Q := fun j => Nat.blt (q j) n && (!fg_on (A j) && Nat.blt (q j) k)) (fun j hj => ?_)
    have := hq _ (rq_p J hj)
    rw [W.1 _ _ this.1 hj this.2]
  rw [← e]
  refine mz_lp (fun i => jx_E 166 39 [.ref y, .int v, .int v2, .int v3, .int (nI (p k)), .int (nI (mz_su (fun j => (Nat.blt (q j) n && (!fg_on (A j) && Nat.blt (q j) k)).toNat) i)), .int (nI i)] [] h) 20 _ rfl ?_ 0 (by decide)
  intro i hi
  obtain ⟨q1, q2⟩ := hq i hi
  show jx_E 166 39 _ _ _ = jx_E 166 39 [.ref y, .int v, .int v2, .int v3, .int (nI (p k)), .int (nI (mz_su (fun j => (Nat.blt (q j) n && (!fg_on (A j) && Nat.blt (q j) k)).toNat) i + (Nat.blt (q i) n && (!fg_on (A i) && Nat.blt (q i) k)).toNat)), .int (nI (i + 1))] [] h
  have e1 := m_147 J q1
  rw [q2] at e1
  rw [b_166_39, if_neg (show ¬ 20 ≤ nI i from nI_ge (b := 20) hi (by decide)), rq_is J, jx_cI_e e1, nI_1, nI_1, Int32.add_zero]
  by_cases c : q i < n
  · rw [Nat_blt_t c]
    cases eo : fg_on (A i) with
    | true => rw [if_pos (show bI (true && !true) = 0 from rfl)]; rfl
    | false =>
      have x1 := m_143 J c
      rw [q2] at x1
      rw [if_neg (show ¬ bI (true && !false) = 0 by decide), rq_is J, jx_cI_e x1, rq_is J, jx_cI_e (m_143 J hk)]
      have o1 := (rq_ok J c).1
      have o2 := (rq_ok J hk).1
      rw [q2] at o1
      by_cases z : q i < k
      · have u := U (q i) k z hk
        rw [q2] at u
        rw [if_neg (nI_ge u (by omega)), Nat_blt_t z]; rfl
      · have u : fg_id (A (p k)) ≤ fg_id (A i) := by
          by_cases w : k = q i
          · rw [w, q2]; exact Nat.le_refl _
          · have := U k (q i) (by omega) c
            rw [q2] at this; omega
        rw [if_pos (nI_le u (by omega)), Nat_blt_f (show k ≤ q i by omega)]; rfl
  · rw [Nat_blt_f (show n ≤ q i by omega), if_pos (show bI (false && _) = 0 from rfl)]; rfl
theorem m_166j (J : rq_J h y fs S n nx p A g) {k : Nat} (hk : k < 20) (v v2 v3 : Int32) :
    ∃ w, jx_E 166 39 [.ref y, .int v, .int v2, .int v3, .int (nI (p k)), .int 0, .int 0] [] h = jx_E 166 39 [.ref y, .int v, .int v2, .int v3, .int (nI (p k)), .int w, .int 20] [] h := by
  have W := rq_W J
  have hn := rq_n J
  refine mz_inv (γ := Int32) (fun i r => jx_E 166 39 [.ref y, .int v, .int v2, .int v3, .int (nI (p k)), .int r, .int (nI i)] [] h) (fun _ _ => True) 20 (fun X => ∃ w, X = jx_E 166 39 [.ref y, .int v, .int v2, .int v3, .int (nI (p k)), .int w, .int 20] [] h) (fun r _ => ⟨r, rfl⟩) ?_ 0 0 (by decide) trivial
  intro i r hi _
  right
  obtain ⟨j, hj, rfl⟩ := mz_surj (fun k hk => rq_p J hk) W.1 hi
  obtain ⟨z, hz⟩ : ∃ z, jx_A 143 [.ref y, .int (nI (p k))] h = some (.inl (some (.int z)), h) := by
    by_cases c : k < n
    · exact ⟨_, m_143 J c⟩
    · exact ⟨_, m_143n J (by omega) hk⟩
  have E : jx_E 166 39 [.ref y, .int v, .int v2, .int v3, .int (nI (p k)), .int r, .int (nI (p j))] [] h = if bI (Nat.blt j n && !fg_on (A (p j))) = 0 then (jx_E 166 39 [.ref y, .int v, .int v2, .int v3, .int (nI (p k)), .int (r + 0), .int (nI (p j + 1))] [] h) else (jx_cI jx_A 143 [.ref y, .int (nI (p j))] h (fun y8 h7 => jx_is h7 y 8 (jx_cI jx_A 143 [.ref y, .int (nI (p k))] h7 (fun y10 h9 => if y10 ≤ y8 then (jx_E 166 39 [.ref y, .int v, .int v2, .int v3, .int (nI (p k)), .int (r + 0), .int (nI (p j + 1))] [] h9) else (jx_E 166 39 [.ref y, .int v, .int v2, .int v3, .int (nI (p k)), .int (r + 1), .int (nI (p j + 1))] [] h9))))) := by
    rw [b_166_39, if_neg (show ¬ 20 ≤ nI (p j) from nI_ge (b := 20) hi (by decide)), rq_is J, jx_cI_e (m_147 J hj), rq_is J, nI_1]
  show ∃ g', True ∧ jx_E 166 39 [.ref y, .int v, .int v2, .int v3, .int (nI (p k)), .int r, .int (nI (p j))] [] h = jx_E 166 39 [.ref y, .int v, .int v2, .int v3, .int (nI (p k)), .int g', .int (nI (p j + 1))] [] h
  rw [E]
  by_cases c : j < n
  · rw [jx_cI_e (m_143 J c), rq_is J, jx_cI_e hz]
    split
    · exact ⟨_, trivial, rfl⟩
    · split
      · exact ⟨_, trivial, rfl⟩
      · exact ⟨_, trivial, rfl⟩
  · rw [Nat_blt_f (show n ≤ j by omega), if_pos (show bI (false && _) = 0 from rfl)]
    exact ⟨_, trivial, rfl⟩
theorem m_166 (I : ro_I h y S th R) (Q : ro_S S M) (O : mm_ok M) (v : Int32) : rd_Q h y S R (jx_A 166 [.ref y, .int v] h) (sp_tray M v) ce_1 (.int 0) := by
  obtain ⟨p, A, g, B, hF, ho⟩ := Q
  have J : rq_J h y (ro_fs y th R) S M.1 M.2.1 p A g := ⟨I.1, B⟩
  have hn := rq_n J
  have W := rq_W J
  have U := mm_okA O hF
  have lo : ∀ k, k < M.1 → (!fg_on (A (p k))) = (!fg_on (M.2.2.1 k)) := fun k hk => by rw [hF k hk]
  have m148 := m_148 J true
  have m148 : jx_A 148 [.ref y, .int 1] h = some (.inl (some (.int (nI (mz_su (fun j => (!fg_on (A (p j))).toNat) M.1)))), h) := m148
  rcases rk_ask (n := M.1) (P := fun j => !fg_on (A (p j))) (bt := Nat.blt) rk_Ob hn v h with ⟨k0, hk0, e1, e2, q⟩ | ⟨hno, q⟩
  · obtain ⟨h1, x1, I1, t1⟩ := m_139 I true
    have J1 : rq_J h1 y (ro_fs y 0 R) S M.1 M.2.1 p A g := ⟨I1.1, B⟩
    have p0 := rq_p J (show k0 < 20 by omega)
    refine ⟨.inl (.int (nI (fg_id (M.2.2.1 k0)))), h1, ⟨some k0, ⟨hk0, by rw [← hF k0 hk0]; simpa using e1, ?_⟩, rfl⟩, t1, ?_, I1⟩
    · rw [← e2, rk_tr hk0]
      exact congrArg nI (mz_su_cong fun j hj => by rw [hF j (by omega)])
    · rw [a_166, rq_is J, jx_cI_e m148, jx_cI_e q, ro_is I, jx_cI_e (show jx_A 139 [.ref y, .int 1] h = _ from x1)]
      refine mz_inv (γ := Int32 × Value × Value) (fun i r => jx_E 166 22 [.ref y, .int v, .int r.1, .int (bI true), .int (nI i), r.2.1, r.2.2] [] h1) (fun i r => r.1 = if p k0 < i then nI (fg_id (M.2.2.1 k0)) else 0) 20 (fun X => X = some (.inl (some (.int (nI (fg_id (M.2.2.1 k0))))), h1)) ?_ ?_ 0 (0, jx_j, jx_j) (by decide) (by rw [if_neg (Nat.not_lt_zero _)])
      · intro r e
        rw [if_pos p0] at e
        rw [b_166_22, if_pos (by decide), e]
      · intro i r hi e
        right
        obtain ⟨r, w5, w6⟩ := r
        dsimp only at e ⊢
        obtain ⟨k, hk, rfl⟩ := mz_surj (fun k hk => rq_p J hk) W.1 hi
        rw [b_166_22, if_neg (show ¬ 20 ≤ nI (p k) from nI_ge (b := 20) hi (by decide)), if_neg (show ¬ bI true = 0 by decide)]
        have stay : k ≠ k0 → r = if p k0 < p k + 1 then nI (fg_id (M.2.2.1 k0)) else 0 := fun ne => by
          have ne : p k ≠ p k0 := fun q => ne (W.1 k k0 hk (by omega) q)
          rw [e]
          by_cases q : p k0 < p k
          · rw [if_pos q, if_pos (by omega)]
          · rw [if_neg q, if_neg (by omega)]
        by_cases c : k < M.1
        · rw [m_166i J1 U c, b_166_39, if_pos (show (20 : Int32) ≤ 20 by decide), rq_is J1, jx_cI_e (m_147 J1 hk), Nat_blt_t c, nI_1]
          cases eo : fg_on (A (p k)) with
          | true =>
            rw [if_pos (show bI (true && !true) = 0 from rfl)]
            refine ⟨(r, .int _, .int _), stay (fun q => ?_), rfl⟩
            subst q
            rw [eo] at e1; cases e1
          | false =>
            rw [if_neg (show ¬ bI (true && !false) = 0 by decide)]
            by_cases z : k = k0
            · subst z
              rw [if_pos e2, rq_is J1, jx_cI_e (m_143 J1 c), hF k c]
              exact ⟨(_, .int _, .int _), (if_pos (Nat.lt_succ_self _)).symm, rfl⟩
            · have nq : ¬ nI (rk_n M.1 (fun j => !fg_on (A (p j))) Nat.blt k) = v := by
                intro q2
                have l1 := rk_lt (n := M.1) (P := fun j => !fg_on (A (p j))) rk_Ob c (by rw [eo]; rfl)
                have l2 := rk_lt (n := M.1) (P := fun j => !fg_on (A (p j))) rk_Ob hk0 e1
                have le : mz_su (fun j => (!fg_on (A (p j))).toNat) M.1 ≤ M.1 * 1 := mz_su_le (fun k _ => by cases fg_on (A (p k)) <;> decide)
                exact z (rk_inj (n := M.1) (P := fun j => !fg_on (A (p j))) rk_Ob c hk0 (by rw [eo]; rfl) e1 ((nI_eq (by omega) (by omega)).mp (q2.trans e2.symm)))
              rw [if_neg nq]
              exact ⟨(r, .int _, .int _), stay z, rfl⟩
        · obtain ⟨w, hw⟩ := m_166j J1 hk v r (bI true)
          rw [hw, b_166_39, if_pos (show (20 : Int32) ≤ 20 by decide), rq_is J1, jx_cI_e (m_147 J1 hk), Nat_blt_f (show M.1 ≤ k by omega), if_pos (show bI (false && _) = 0 from rfl), nI_1]
          exact ⟨(r, .int _, .int _), stay (by omega), rfl⟩
  · obtain ⟨h1, x1, I1, t1⟩ := m_139 I false
    refine ⟨.inr eIO, h1, ⟨none, fun k hk w => hno k hk ⟨by rw [hF k hk]; simpa using w.1, ?_⟩, rfl⟩, t1, ?_, I1⟩
    · rw [← w.2, rk_tr hk]
      exact congrArg nI (mz_su_cong fun j hj => by rw [hF j (by omega)])
    · rw [a_166, rq_is J, jx_cI_e m148, jx_cI_e q, ro_is I, jx_cI_e (show jx_A 139 [.ref y, .int 0] h = _ from x1), b_166_22, if_neg (by decide), if_pos (show bI false = 0 from rfl)]
end RD
end JX
