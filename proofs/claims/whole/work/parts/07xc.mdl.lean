/-! The other object: what its board says. -/
section JX
/-- the numbers of a fragment, as they are kept -/
def fg_w (f : fg_T) (w : Nat) : Nat := match w with | 0 => fg_id f + 1 | 1 => fg_co f | 2 => fg_ed f 0 | 3 => fg_ed f 1 | 4 => fg_ed f 2 | 5 => fg_ed f 3 | 6 => fg_tn f | _ => fg_ce f
def rq_I (h : jx_H) (y : Nat) (fs : List Value) (S : Nat → Nat) : Prop := h.1 y = some (8, .ref (y + 1) :: fs) ∧ h.1 (y + 1) = some (100, mz_ar 225 (fun k => .int (nI (S k)))) ∧ jx_nc ≤ y
def rq_g (o : Option Nat) : Nat := match o with | none => 0 | some i => i + 1
def rq_B (S : Nat → Nat) (n nx : Nat) (p : Nat → Nat) (A : Nat → fg_T) (g : Nat → Option Nat) : Prop :=
  S 0 = nx ∧ (∀ k, k < n → fg_ok (A (p k)) ∧ ∀ w, w < 8 → S (1 + 8 * p k + w) = fg_w (A (p k)) w) ∧ (∀ k, n ≤ k → k < 20 → S (1 + 8 * p k) = 0) ∧ (∀ c, c < 64 → S (161 + c) = rq_g (g c)) ∧ n ≤ 20 ∧ nx < 2 ^ 30 ∧ (∀ k, k < 20 → p k < 20) ∧ bd_W n p A g
def rq_J (h : jx_H) (y : Nat) (fs : List Value) (S : Nat → Nat) (n nx : Nat) (p : Nat → Nat) (A : Nat → fg_T) (g : Nat → Option Nat) : Prop := rq_I h y fs S ∧ rq_B S n nx p A g
def rq_U (n : Nat) (p : Nat → Nat) (A : Nat → fg_T) : Prop := ∀ j k, j < n → k < n → fg_id (A (p j)) = fg_id (A (p k)) → j = k
theorem fg_w_lt {f : fg_T} (H : fg_ok f) (w : Nat) : fg_w f w ≤ 2 ^ 30 := by
  obtain ⟨h1, h2, h3, h4, h5⟩ := H
  have a := h3 0; have b := h3 1; have c := h3 2; have d := h3 3
  unfold fg_w
  split <;> omega
-- permutations
theorem mz_19 : ∀ j, j < 20 → mz_su (fun c => (!(c == j)).toNat) 20 = 19 := by decide +kernel
theorem mz_surj {p : Nat → Nat} (h1 : ∀ k, k < 20 → p k < 20) (h2 : ∀ j k, j < 20 → k < 20 → p j = p k → j = k) {j : Nat} (hj : j < 20) : ∃ k, k < 20 ∧ p k = j := by
  by_cases z : ∃ k, k < 20 ∧ p k = j
  · exact z
  · exfalso
    have := mz_inj_le (P := fun _ => true) (Q := fun c => !(c == j)) p (n := 20) (m := 20) (fun k hk _ => ⟨h1 k hk, by
      have : p k ≠ j := fun e => z ⟨k, hk, e⟩
      simp [this]⟩) (fun k j hk hj _ _ e => h2 k j hk hj e)
    rw [mz_19 j hj] at this
    exact absurd this (by decide)
theorem mz_inv_p {p : Nat → Nat} (h1 : ∀ k, k < 20 → p k < 20) (h2 : ∀ j k, j < 20 → k < 20 → p j = p k → j = k) : ∃ q : Nat → Nat, ∀ j, j < 20 → q j < 20 ∧ p (q j) = j :=
  ⟨fun j => if h : j < 20 then Classical.choose (mz_surj h1 h2 h) else 0, fun j hj => by
    dsimp only
    rw [dif_pos hj]
    exact Classical.choose_spec (mz_surj h1 h2 hj)⟩
theorem mz_su_more {f : Nat → Nat} {n : Nat} : ∀ m, n ≤ m → (∀ k, n ≤ k → k < m → f k = 0) → mz_su f m = mz_su f n
  | 0, h, _ => by rw [Nat.le_zero.mp h]
  | m + 1, h, z => by
    by_cases e : n = m + 1
    · rw [e]
    · show mz_su f m + f m = _
      rw [z m (by omega) (Nat.lt_succ_self m), mz_su_more m (by omega) (fun k a b => z k a (by omega))]; rfl
/-- a count over the slots is a count over the fragments -/
theorem mz_perm {p : Nat → Nat} (h1 : ∀ k, k < 20 → p k < 20) (h2 : ∀ j k, j < 20 → k < 20 → p j = p k → j = k) {n : Nat} (hn : n ≤ 20) {P Q : Nat → Bool} (hQ : ∀ k, k < 20 → Q (p k) = (Nat.blt k n && P k)) : mz_su (fun j => (Q j).toNat) 20 = mz_su (fun k => (P k).toNat) n := by
  obtain ⟨q, hq⟩ := mz_inv_p h1 h2
  have e : mz_su (fun k => (P k).toNat) n = mz_su (fun k => (Nat.blt k n && P k).toNat) 20 := by
    rw [mz_su_more (n := n) 20 hn (fun k a b => by rw [show Nat.blt k n = false from by rw [Bool.eq_false_iff]; intro w; have := Nat.blt_eq.mp w; omega]; rfl)]
    exact mz_su_cong fun k hk => by rw [show Nat.blt k n = true from Nat.blt_eq.mpr hk]; rfl
  rw [e]
  refine mz_bij q p (fun j hj h => ⟨(hq j hj).1, ?_⟩) (fun j k hj hk _ _ e => by rw [← (hq j hj).2, ← (hq k hk).2, e]) (fun k hk h => ⟨h1 k hk, by rw [hQ k hk]; exact h⟩) (fun j k hj hk _ _ e => h2 j k hj hk e)
  rw [← hQ _ (hq j hj).1, (hq j hj).2]; exact h
-- tests of numbers
theorem m_135 (v a b : Int32) (h : jx_H) : jx_A 135 [.int v, .int a, .int b] h = some (.inl (some (.int (bI (decide (a ≤ v) && decide (v ≤ b))))), h) := by
  rw [a_135]
  by_cases c1 : v < a
  · rw [if_pos c1, decide_eq_false (show ¬ a ≤ v from fun q => Int32.lt_irrefl (Int32.lt_of_lt_of_le c1 q))]; rfl
  · rw [if_neg c1, decide_eq_true (Int32.not_lt.mp c1)]
    by_cases c2 : b < v
    · rw [if_pos c2, decide_eq_false (show ¬ v ≤ b from fun q => Int32.lt_irrefl (Int32.lt_of_lt_of_le c2 q))]; rfl
    · rw [if_neg c2, decide_eq_true (Int32.not_lt.mp c2)]; rfl
theorem m_149 (v w : Int32) (h : jx_H) : jx_A 149 [.int v, .int w] h = some (.inl (some (.int (bI ((decide (0 ≤ v) && decide (v ≤ 7)) && (decide (0 ≤ w) && decide (w ≤ 7)))))), h) := by
  rw [a_149, jx_cI_e (m_135 v 0 7 h)]
  cases e : (decide (0 ≤ v) && decide (v ≤ 7)) with
  | false => rw [if_pos (show bI false = 0 from rfl)]; rfl
  | true =>
    rw [if_neg (by decide), jx_cI_e (m_135 w 0 7 h)]
    cases e2 : (decide (0 ≤ w) && decide (w ≤ 7)) with
    | false => rw [if_pos (show bI false = 0 from rfl)]; rfl
    | true => rw [if_neg (by decide)]; rfl
theorem m_150 (v : Int32) (h : jx_H) : jx_A 150 [.int v] h = some (.inl (some (.int (bI (decide (97 ≤ v) && decide (v ≤ 102))))), h) := by
  rw [a_150, jx_cI_e (m_135 v 97 102 h)]
  have : ∀ b, bI b = 0 ∨ bI b = 1 := by decide
  rw [if_pos (this _)]
def mz_bv (c s : Nat) (dr dc : Int32) : Bool := decide ((if bI ((decide (0 ≤ nI c / 8 + dr) && decide (nI c / 8 + dr ≤ 7)) && (decide (0 ≤ (nI c - nI c / 8 * 8) + dc) && decide ((nI c - nI c / 8 * 8) + dc ≤ 7))) = 0 then (-1 : Int32) else (8 * (nI c / 8 + dr)) + ((nI c - nI c / 8 * 8) + dc)) = zO (mz_bs c s))
theorem mz_bv_ok : ∀ c, c < 64 → (mz_bv c 0 (-1) 0 && mz_bv c 1 0 1 && mz_bv c 2 1 0 && mz_bv c 3 0 (-1)) = true := by decide +kernel
theorem m_151 {c s : Nat} (hc : c < 64) (hs : s < 4) (h : jx_H) : jx_A 151 [.int (nI c), .int (nI s)] h = some (.inl (some (.int (zO (mz_bs c s)))), h) := by
  have ok := mz_bv_ok c hc
  simp only [Bool.and_eq_true] at ok
  obtain ⟨⟨⟨k0, k1⟩, k2⟩, k3⟩ := ok
  have fin : ∀ (dr dc : Int32), mz_bv c s dr dc = true → (jx_cI jx_A 149 [.int (nI c / 8 + dr), .int ((nI c - nI c / 8 * 8) + dc)] h (fun y6 h5 => if y6 = 0 then (some (.inl (some (.int (-1))), h5)) else (some (.inl (some (.int ((8 * (nI c / 8 + dr)) + ((nI c - nI c / 8 * 8) + dc)))), h5)))) = some (.inl (some (.int (zO (mz_bs c s)))), h) := by
    intro dr dc e
    have e := of_decide_eq_true e
    rw [jx_cI_e (m_149 _ _ h), ← e]
    split <;> rfl
  rw [a_151]
  match s, hs, fin with
  | 0, _, fin => rw [if_pos (by decide), b_151_22, if_neg (by decide), if_neg (by decide)]; exact fin _ _ k0
  | 1, _, fin => rw [if_neg (by decide), if_neg (by decide), b_151_22, if_pos (by decide)]; exact fin _ _ k1
  | 2, _, fin => rw [if_neg (by decide), if_pos (by decide), b_151_22, if_neg (by decide), if_neg (by decide)]; exact fin _ _ k2
  | 3, _, fin => rw [if_neg (by decide), if_neg (by decide), b_151_22, if_neg (by decide), if_pos (by decide)]; exact fin _ _ k3
section RQ
variable {h : jx_H} {y : Nat} {fs : List Value} {S : Nat → Nat} {n nx : Nat} {p : Nat → Nat} {A : Nat → fg_T} {g : Nat → Option Nat}
theorem rq_is (J : rq_J h y fs S n nx p A g) (F : jx_R) : jx_is h y 8 F = F := jx_is_e J.1.1 F
theorem rq_0 (J : rq_J h y fs S n nx p A g) (F : Nat → jx_R) : jx_gA h y 8 0 F = F (y + 1) := jx_gA_e J.1.1 rfl F
theorem rq_l (J : rq_J h y fs S n nx p A g) {k : Nat} (hk : k < 225) (F : Int32 → jx_R) : jx_lI h (y + 1) 100 (nI k) F = F (nI (S k)) := mz_lI J.1.2.1 hk (by decide) rfl F
theorem rq_c (J : rq_J h y fs S n nx p A g) {c : Nat} (hc : c < 64) (F : Int32 → jx_R) : jx_lI h (y + 1) 100 (161 + nI c) F = F (nI (rq_g (g c))) := by
  rw [show (161 : Int32) + nI c = nI (161 + c) from nI_add 161 c, rq_l J (by omega), J.2.2.2.2.1 c hc]
theorem rq_n (J : rq_J h y fs S n nx p A g) : n ≤ 20 := J.2.2.2.2.2.1
theorem rq_p (J : rq_J h y fs S n nx p A g) {k : Nat} (hk : k < 20) : p k < 20 := J.2.2.2.2.2.2.2.1 k hk
theorem rq_W (J : rq_J h y fs S n nx p A g) : bd_W n p A g := J.2.2.2.2.2.2.2.2
theorem rq_ok (J : rq_J h y fs S n nx p A g) {k : Nat} (hk : k < n) : fg_ok (A (p k)) := (J.2.2.1 k hk).1
theorem rq_gs (J : rq_J h y fs S n nx p A g) {c i : Nat} (hc : c < 64) (e : g c = some i) : ∃ k, k < n ∧ i = p k ∧ fg_ce (A (p k)) = c + 1 := by
  obtain ⟨w1, k, hk, rfl⟩ := (rq_W J).2.1 c i hc e
  exact ⟨k, hk, rfl, w1⟩
theorem mz_18 : ∀ j, j < 20 → ∀ w, w < 8 → (1 + 8 * nI j) + nI w = nI (1 + 8 * j + w) := by decide +kernel
theorem m_140 (J : rq_J h y fs S n nx p A g) {j w : Nat} (hj : j < 20) (hw : w < 8) : jx_A 140 [.ref y, .int (nI j), .int (nI w)] h = some (.inl (some (.int (nI (S (1 + 8 * j + w))))), h) := by
  rw [a_140, rq_0 J, mz_18 j hj w hw, rq_l J (by omega)]
theorem m_140k (J : rq_J h y fs S n nx p A g) {k w : Nat} (hk : k < n) (hw : w < 8) : jx_A 140 [.ref y, .int (nI (p k)), .int (nI w)] h = some (.inl (some (.int (nI (fg_w (A (p k)) w)))), h) := by
  have := rq_n J
  rw [m_140 J (rq_p J (by omega)) hw, (J.2.2.1 k hk).2 w hw]
theorem m_140n (J : rq_J h y fs S n nx p A g) {k : Nat} (hk : n ≤ k) (hk2 : k < 20) : jx_A 140 [.ref y, .int (nI (p k)), .int (nI 0)] h = some (.inl (some (.int 0)), h) := by
  rw [m_140 J (rq_p J hk2) (by decide), Nat.add_zero, J.2.2.2.1 k hk hk2]; rfl
theorem m_142 (J : rq_J h y fs S n nx p A g) {k : Nat} (hk : k < 20) : jx_A 142 [.ref y, .int (nI (p k))] h = some (.inl (some (.int (bI (Nat.blt k n)))), h) := by
  rw [a_142, rq_is J]
  by_cases c : k < n
  · have ok := fg_w_lt (rq_ok J c) 0
    rw [jx_cI_e (show jx_A 140 [.ref y, .int (nI (p k)), .int 0] h = _ from m_140k J c (w := 0) (by decide)), if_neg (nI_nle (by show 0 < fg_id _ + 1; omega) (by omega)), show Nat.blt k n = true from Nat.blt_eq.mpr c]; rfl
  · rw [jx_cI_e (show jx_A 140 [.ref y, .int (nI (p k)), .int 0] h = _ from m_140n J (by omega) hk), if_pos (by decide), show Nat.blt k n = false from by rw [Bool.eq_false_iff]; intro w; exact c (Nat.blt_eq.mp w)]; rfl
theorem m_143 (J : rq_J h y fs S n nx p A g) {k : Nat} (hk : k < n) : jx_A 143 [.ref y, .int (nI (p k))] h = some (.inl (some (.int (nI (fg_id (A (p k)))))), h) := by
  rw [a_143, rq_is J, jx_cI_e (show jx_A 140 [.ref y, .int (nI (p k)), .int 0] h = _ from m_140k J hk (w := 0) (by decide))]
  show (some (.inl (some (.int (nI (fg_id (A (p k)) + 1) - 1))), h) : jx_R) = _
  rw [nI_pred]
theorem m_145 (J : rq_J h y fs S n nx p A g) {k : Nat} (hk : k < n) : jx_A 145 [.ref y, .int (nI (p k))] h = some (.inl (some (.int (bI (fg_on (A (p k)))))), h) := by
  have ok := rq_ok J hk
  rw [a_145, rq_is J, jx_cI_e (show jx_A 140 [.ref y, .int (nI (p k)), .int 7] h = _ from m_140k J hk (w := 7) (by decide))]
  show (if nI (fg_ce (A (p k))) ≤ 0 then (some (.inl (some (.int 0)), h) : jx_R) else some (.inl (some (.int 1)), h)) = _
  unfold fg_on
  by_cases c : fg_ce (A (p k)) = 0
  · rw [c, if_pos (by decide)]; rfl
  · rw [if_neg (nI_nle (by omega) (by have := ok.2.2.2.2; omega)), show (fg_ce (A (p k)) != 0) = true by simpa using c]; rfl
theorem m_144 (J : rq_J h y fs S n nx p A g) (U : rq_U n p A) (v : Int32) : ∃ o, bd_fd n (fun k => A (p k)) v o ∧ jx_A 144 [.ref y, .int v] h = some (.inl (some (.int (match o with | some k => nI (p k) | none => -1))), h) := by
  have hn := rq_n J
  have W := rq_W J
  by_cases c : ∃ k, k < n ∧ nI (fg_id (A (p k))) = v
  · obtain ⟨k0, hk0, e0⟩ := c
    have ok0 := rq_ok J hk0
    have same : ∀ k, k < n → nI (fg_id (A (p k))) = v → k = k0 := fun k hk e => U k k0 hk hk0 ((nI_eq (by have := (rq_ok J hk).1; omega) (by have := ok0.1; omega)).mp (e.trans e0.symm))
    refine ⟨some k0, ⟨hk0, e0, fun j hj e => (by have := same j (by omega) e; omega)⟩, ?_⟩
    have vn : ¬ v < 0 := by rw [← e0]; exact nI_pos (by have := ok0.1; omega)
    rw [a_144]
    refine mz_inv (γ := Int32) (fun i r => jx_E 144 4 [.ref y, .int v, .int r, .int (nI i)] [] h) (fun i r => r = if p k0 < i then nI (p k0) else -1) 20 (fun X => X = some (.inl (some (.int (nI (p k0)))), h)) ?_ ?_ 0 (-1) (by decide) (by rw [if_neg (Nat.not_lt_zero _)])
    · intro r e
      rw [if_pos (rq_p J (by omega))] at e
      rw [b_144_4, if_pos (by decide), e]
    · intro i r hi e
      right
      obtain ⟨k, hk, rfl⟩ := mz_surj (fun k hk => rq_p J hk) W.1 hi
      have E : jx_E 144 4 [.ref y, .int v, .int r, .int (nI (p k))] [] h = jx_cI jx_A 140 [.ref y, .int (nI (p k)), .int 0] h (fun y2 h1 => if y2 = (v + 1) then (jx_E 144 4 [.ref y, .int v, .int (nI (p k)), .int (nI (p k + 1))] [] h1) else (jx_E 144 4 [.ref y, .int v, .int r, .int (nI (p k + 1))] [] h1)) := by
        rw [b_144_4, if_neg (show ¬ 20 ≤ nI (p k) from nI_ge (b := 20) hi (by decide)), if_neg vn, rq_is J, nI_1]
      by_cases c1 : k = k0
      · subst c1
        refine ⟨nI (p k), by rw [if_pos (Nat.lt_succ_self _)], ?_⟩
        show jx_E 144 4 _ _ _ = jx_E 144 4 _ _ _
        rw [E, jx_cI_e (show jx_A 140 [.ref y, .int (nI (p k)), .int 0] h = _ from m_140k J hk0 (w := 0) (by decide)), if_pos (by rw [← e0, nI_1]; rfl)]
      · have ne : p k ≠ p k0 := fun q => c1 (W.1 k k0 hk (by omega) q)
        refine ⟨r, ?_, ?_⟩
        · rw [e]
          by_cases q : p k0 < p k
          · rw [if_pos q, if_pos (by omega)]
          · rw [if_neg q, if_neg (by omega)]
        · show jx_E 144 4 _ _ _ = jx_E 144 4 _ _ _
          by_cases c2 : k < n
          · rw [E, jx_cI_e (show jx_A 140 [.ref y, .int (nI (p k)), .int 0] h = _ from m_140k J c2 (w := 0) (by decide)), if_neg]
            intro q
            refine c1 (same k c2 ?_)
            have q : nI (fg_id (A (p k)) + 1) = v + 1 := q
            rw [← nI_1] at q
            have := congrArg (fun z => z - 1) q
            rwa [Int32.add_sub_cancel, Int32.add_sub_cancel] at this
          · rw [E, jx_cI_e (show jx_A 140 [.ref y, .int (nI (p k)), .int 0] h = _ from m_140n J (by omega) hk), if_neg]
            intro q
            rw [← e0, nI_1] at q
            exact nI_ne0 (by omega) (by have := ok0.1; omega) q.symm
  · refine ⟨none, fun j hj e => c ⟨j, hj, e⟩, ?_⟩
    rw [a_144]
    refine mz_lp (fun i => jx_E 144 4 [.ref y, .int v, .int (-1), .int (nI i)] [] h) 20 _ ?_ ?_ 0 (by decide)
    · rw [b_144_4, if_pos (by decide)]
    · intro i hi
      show jx_E 144 4 _ _ _ = jx_E 144 4 _ _ _
      obtain ⟨k, hk, rfl⟩ := mz_surj (fun k hk => rq_p J hk) W.1 hi
      rw [b_144_4, if_neg (show ¬ 20 ≤ nI (p k) from nI_ge (b := 20) hi (by decide)), nI_1]
      by_cases vn : v < 0
      · rw [if_pos vn]
      · rw [if_neg vn, rq_is J]
        by_cases c2 : k < n
        · rw [jx_cI_e (show jx_A 140 [.ref y, .int (nI (p k)), .int 0] h = _ from m_140k J c2 (w := 0) (by decide)), if_neg]
          intro q
          refine c ⟨k, c2, ?_⟩
          have q : nI (fg_id (A (p k)) + 1) = v + 1 := q
          rw [← nI_1] at q
          have := congrArg (fun z => z - 1) q
          rwa [Int32.add_sub_cancel, Int32.add_sub_cancel] at this
        · rw [jx_cI_e (show jx_A 140 [.ref y, .int (nI (p k)), .int 0] h = _ from m_140n J (by omega) hk), if_neg]
          intro q
          have := congrArg (fun z => z - 1) q
          rw [Int32.add_sub_cancel] at this
          exact vn (by rw [← this]; decide)
/-- the one that is on the grid -/
theorem m_146 (J : rq_J h y fs S n nx p A g) (U : rq_U n p A) (v : Int32) : ∃ o, bd_fd n (fun k => A (p k)) v o ∧ jx_A 146 [.ref y, .int v] h = some (.inl (some (.int (match o with | some k => bif fg_on (A (p k)) then nI (p k) else -1 | none => -1))), h) := by
  obtain ⟨o, hf, e⟩ := m_144 J U v
  refine ⟨o, hf, ?_⟩
  rw [a_146, rq_is J, jx_cI_e e]
  cases o with
  | none => exact if_pos (show (-1 : Int32) < 0 by decide)
  | some k =>
    have hn := rq_n J
    have hk : k < n := hf.1
    dsimp only
    rw [if_neg (nI_pos (by have := rq_p J (show k < 20 by omega); omega)), rq_is J, jx_cI_e (m_145 J hk)]
    cases fg_on (A (p k)) with
    | false => rw [if_pos (show bI false = 0 from rfl)]; rfl
    | true => rw [if_neg (by decide)]; rfl
theorem m_147 (J : rq_J h y fs S n nx p A g) {k : Nat} (hk : k < 20) : jx_A 147 [.ref y, .int (nI (p k))] h = some (.inl (some (.int (bI (Nat.blt k n && !fg_on (A (p k)))))), h) := by
  rw [a_147, rq_is J, jx_cI_e (m_142 J hk)]
  by_cases c : k < n
  · rw [show Nat.blt k n = true from Nat.blt_eq.mpr c, if_neg (by decide), rq_is J, jx_cI_e (m_145 J c)]
    cases fg_on (A (p k)) with
    | false => rw [if_pos (show bI false = 0 from rfl)]; rfl
    | true => rw [if_neg (by decide)]; rfl
  · rw [show Nat.blt k n = false from by rw [Bool.eq_false_iff]; intro w; exact c (Nat.blt_eq.mp w), if_pos (show bI false = 0 from rfl)]; rfl
theorem mz_sub1 : ∀ x y : Int32, x + 0 = x := by intro x _; exact Int32.add_zero x
theorem m_148 (J : rq_J h y fs S n nx p A g) (b : Bool) : jx_A 148 [.ref y, .int (bI b)] h = some (.inl (some (.int (nI (mz_su (fun k => (bif b then !fg_on (A (p k)) else true).toNat) n)))), h) := by
  have W := rq_W J
  obtain ⟨q, hq⟩ := mz_inv_p (fun k hk => rq_p J hk) W.1
  have e : mz_su (fun k => (bif b then !fg_on (A (p k)) else true).toNat) n = mz_su (fun j => (Nat.blt (q j) n && (bif b then !fg_on (A j) else true)).toNat) 20 := by
    refine (mz_perm (fun k hk => rq_p J hk) W.1 (rq_n J) (P := fun k => bif b then !fg_on (A (p k)) else true) (Q := fun j => Nat.blt (q j) n && (bif b then !fg_on (A j) else true)) (fun k hk => ?_)).symm
    have := hq _ (rq_p J hk)
    rw [W.1 _ _ this.1 hk this.2]
  rw [e, a_148]
  have le : ∀ i, i ≤ 20 → mz_su (fun j => (Nat.blt (q j) n && (bif b then !fg_on (A j) else true)).toNat) i ≤ i * 1 := fun i _ => mz_su_le (fun k _ => by cases (Nat.blt (q k) n && (bif b then !fg_on (A k) else true)) <;> decide)
  refine mz_lp (fun i => jx_E 148 4 [.ref y, .int (bI b), .int (nI (mz_su (fun j => (Nat.blt (q j) n && (bif b then !fg_on (A j) else true)).toNat) i)), .int (nI i)] [] h) 20 _ ?_ ?_ 0 (by decide)
  · rw [b_148_4, if_pos (by decide)]
  · intro i hi
    obtain ⟨q1, q2⟩ := hq i hi
    show jx_E 148 4 _ _ _ = jx_E 148 4 [.ref y, .int (bI b), .int (nI (mz_su (fun j => (Nat.blt (q j) n && (bif b then !fg_on (A j) else true)).toNat) i + (Nat.blt (q i) n && (bif b then !fg_on (A i) else true)).toNat)), .int (nI (i + 1))] [] h
    rw [b_148_4, if_neg (show ¬ 20 ≤ nI i from nI_ge (b := 20) hi (by decide)), nI_1, nI_1, Int32.add_zero]
    have e1 := m_142 J q1
    have e2 := m_147 J q1
    rw [q2] at e1 e2
    cases b with
    | false =>
      rw [if_pos (show bI false = 0 from rfl), rq_is J, jx_cI_e e1]
      cases Nat.blt (q i) n with
      | false => rw [if_pos (show bI false = 0 from rfl)]; rfl
      | true => rw [if_neg (by decide)]; rfl
    | true =>
      rw [if_neg (by decide), rq_is J, jx_cI_e e2]
      show (if bI (Nat.blt (q i) n && !fg_on (A i)) = 0 then _ else _) = jx_E 148 4 [.ref y, .int (bI true), .int (nI (_ + (Nat.blt (q i) n && !fg_on (A i)).toNat)), .int (nI (i + 1))] [] h
      cases (Nat.blt (q i) n && !fg_on (A i)) with
      | false => rw [if_pos (show bI false = 0 from rfl)]; rfl
      | true => rw [if_neg (by decide)]; rfl
end RQ
end JX
