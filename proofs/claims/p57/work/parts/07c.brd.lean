/-! The board: what it is, what its questions answer. -/
section JX
abbrev fg_T : Type := Nat × Nat × Nat × Nat × Nat × Nat × Nat × Nat
def fg_id (f : fg_T) : Nat := f.1
def fg_co (f : fg_T) : Nat := f.2.1
def fg_ed (f : fg_T) (k : Nat) : Nat := match k with | 0 => f.2.2.1 | 1 => f.2.2.2.1 | 2 => f.2.2.2.2.1 | _ => f.2.2.2.2.2.1
def fg_tn (f : fg_T) : Nat := f.2.2.2.2.2.2.1
/-- 0 in the tray, else the cell and 1 -/
def fg_ce (f : fg_T) : Nat := f.2.2.2.2.2.2.2
def fg_on (f : fg_T) : Bool := fg_ce f != 0
def fg_at (f : fg_T) (s : Nat) : Nat := fg_ed f ((s + 4 - fg_tn f) % 4)
def fg_fit (f : fg_T) (s : Nat) (f' : fg_T) : Bool := fg_at f s + fg_at f' ((s + 2) % 4) == 15
def fg_ok (f : fg_T) : Prop := fg_id f < 2 ^ 30 ∧ fg_co f < 65536 ∧ (∀ k, fg_ed f k < 16) ∧ fg_tn f < 4 ∧ fg_ce f ≤ 64
def fg_O (q : Nat) (f : fg_T) : jx_Ob := (2, [.int (nI (fg_id f)), .int (nI (fg_co f)), .ref (q + 1), .int (nI (fg_tn f)), .int (nI (fg_ce f) - 1)])
def fg_E (f : fg_T) : jx_Ob := (100, mz_ar 4 (fun k => .int (nI (fg_ed f k))))
def bI (b : Bool) : Int32 := bif b then 1 else 0
theorem bI_0 {b : Bool} : bI b = 0 ↔ b = false := by cases b <;> decide
theorem bI_1 {b : Bool} : bI b = 1 ↔ b = true := by cases b <;> decide
def bd_f (a i : Nat) : Nat := a + 3 + 2 * i
def bd_v (a : Nat) (o : Option Nat) : Value := match o with | some i => .ref (bd_f a i) | none => .null
theorem bd_f_inj {a i j : Nat} (e : bd_f a i = bd_f a j) : i = j := by unfold bd_f at e; omega
def bd_I (h : jx_H) (a n nx : Nat) (p : Nat → Nat) (A : Nat → fg_T) (g : Nat → Option Nat) : Prop :=
  h.1 a = some (0, [.ref (a + 1), .ref (a + 2), .int (nI n), .int (nI nx)]) ∧ h.1 (a + 1) = some (111, mz_ar 20 (fun k => .ref (bd_f a (p k)))) ∧ h.1 (a + 2) = some (111, mz_ar 64 (fun c => bd_v a (g c))) ∧
  (∀ i, i < 20 → h.1 (bd_f a i) = some (fg_O (bd_f a i) (A i)) ∧ h.1 (bd_f a i + 1) = some (fg_E (A i)) ∧ fg_ok (A i)) ∧ n ≤ 20 ∧ nx < 2 ^ 30 ∧ (∀ k, k < 20 → p k < 20) ∧ (∀ c i, c < 64 → g c = some i → i < 20) ∧ jx_nc ≤ a
/-- the constants -/
def mz_K (xs : List Int32) (h : jx_H) : Prop := ∀ q, q < jx_nc → h.1 q = jx_K0 xs q
theorem mz_K_eq {xs : List Int32} {lo hi : Nat} {h h' : jx_H} (H : mz_K xs h) (e : mz_eq lo hi h h') (hl : jx_nc ≤ lo) : mz_K xs h' := fun q hq => (e.1 q (Or.inl (by omega))).trans (H q hq)
-- reading
section BD
variable {h : jx_H} {a n nx : Nat} {p : Nat → Nat} {A : Nat → fg_T} {g : Nat → Option Nat}
theorem bd_n (H : bd_I h a n nx p A g) (F : Int32 → jx_R) : jx_gI h a 0 2 F = F (nI n) := jx_gI_e H.1 rfl F
theorem bd_nx (H : bd_I h a n nx p A g) (F : Int32 → jx_R) : jx_gI h a 0 3 F = F (nI nx) := jx_gI_e H.1 rfl F
theorem bd_fr (H : bd_I h a n nx p A g) (F : Nat → jx_R) : jx_gA h a 0 0 F = F (a + 1) := jx_gA_e H.1 rfl F
theorem bd_gr (H : bd_I h a n nx p A g) (F : Nat → jx_R) : jx_gA h a 0 1 F = F (a + 2) := jx_gA_e H.1 rfl F
theorem bd_is (H : bd_I h a n nx p A g) (F : jx_R) : jx_is h a 0 F = F := jx_is_e H.1 F
theorem bd_at (H : bd_I h a n nx p A g) {k : Nat} (hk : k < 20) (F : Nat → jx_R) : jx_lA h (a + 1) 111 (nI k) F = F (bd_f a (p k)) := mz_lA H.2.1 hk (by decide) rfl F
theorem bd_ce (H : bd_I h a n nx p A g) {c : Nat} (hc : c < 64) (F : Nat → jx_R) (G : jx_R) : jx_lN h (a + 2) 111 (nI c) F G = match g c with | some i => F (bd_f a i) | none => G := by
  cases e : g c with
  | some i => exact mz_lN H.2.2.1 hc (by decide) (by show bd_v a (g c) = _; rw [e]; rfl) F G
  | none => exact mz_lNn H.2.2.1 hc (by decide) (by show bd_v a (g c) = _; rw [e]; rfl) F G
theorem bd_fis (H : bd_I h a n nx p A g) {i : Nat} (hi : i < 20) (F : jx_R) : jx_is h (bd_f a i) 2 F = F := jx_is_e (H.2.2.2.1 i hi).1 F
theorem bd_fid (H : bd_I h a n nx p A g) {i : Nat} (hi : i < 20) (F : Int32 → jx_R) : jx_gI h (bd_f a i) 2 0 F = F (nI (fg_id (A i))) := jx_gI_e (H.2.2.2.1 i hi).1 rfl F
theorem bd_fco (H : bd_I h a n nx p A g) {i : Nat} (hi : i < 20) (F : Int32 → jx_R) : jx_gI h (bd_f a i) 2 1 F = F (nI (fg_co (A i))) := jx_gI_e (H.2.2.2.1 i hi).1 rfl F
theorem bd_fed (H : bd_I h a n nx p A g) {i : Nat} (hi : i < 20) (F : Nat → jx_R) : jx_gA h (bd_f a i) 2 2 F = F (bd_f a i + 1) := jx_gA_e (H.2.2.2.1 i hi).1 rfl F
theorem bd_ftn (H : bd_I h a n nx p A g) {i : Nat} (hi : i < 20) (F : Int32 → jx_R) : jx_gI h (bd_f a i) 2 3 F = F (nI (fg_tn (A i))) := jx_gI_e (H.2.2.2.1 i hi).1 rfl F
theorem bd_fce (H : bd_I h a n nx p A g) {i : Nat} (hi : i < 20) (F : Int32 → jx_R) : jx_gI h (bd_f a i) 2 4 F = F (nI (fg_ce (A i)) - 1) := jx_gI_e (H.2.2.2.1 i hi).1 rfl F
theorem bd_fel (H : bd_I h a n nx p A g) {i k : Nat} (hi : i < 20) (hk : k < 4) (F : Int32 → jx_R) : jx_lI h (bd_f a i + 1) 100 (nI k) F = F (nI (fg_ed (A i) k)) := mz_lI (H.2.2.2.1 i hi).2.1 hk (by decide) rfl F
theorem bd_n20 (H : bd_I h a n nx p A g) : n ≤ 20 := H.2.2.2.2.1
theorem bd_p (H : bd_I h a n nx p A g) {k : Nat} (hk : k < n) : p k < 20 := H.2.2.2.2.2.2.1 k (by have := bd_n20 H; omega)
theorem bd_g (H : bd_I h a n nx p A g) {c i : Nat} (hc : c < 64) (e : g c = some i) : i < 20 := H.2.2.2.2.2.2.2.1 c i hc e
theorem bd_ok (H : bd_I h a n nx p A g) {i : Nat} (hi : i < 20) : fg_ok (A i) := (H.2.2.2.1 i hi).2.2
theorem fg_at_lt {f : fg_T} (H : fg_ok f) (s : Nat) : fg_at f s < 16 := H.2.2.1 _
-- small facts of numbers
theorem mz_neg1 : ∀ k, k ≤ 64 → (nI k - 1 = (-1 : Int32) ↔ k = 0) := by decide +kernel
theorem mz_sub3 : ∀ s, s < 4 → ∀ t, t < 4 → (nI s - nI t) &&& 3 = nI ((s + 4 - t) % 4) := by decide +kernel
theorem mz_opp : ∀ s, s < 4 → (nI s + 2) &&& 3 = nI ((s + 2) % 4) := by decide +kernel
theorem mz_15 : ∀ y, y < 16 → (15 : Int32) - nI y = nI (15 - y) := by decide +kernel
theorem mz_pred (c : Nat) : nI (c + 1) - 1 = nI c := nI_pred c
/-- the cell at a side of another one -/
def mz_bs (c s : Nat) : Option Nat := match s with
  | 0 => bif Nat.ble 8 c then some (c - 8) else none
  | 1 => bif Nat.blt (c % 8) 7 then some (c + 1) else none
  | 2 => bif Nat.blt c 56 then some (c + 8) else none
  | _ => bif Nat.blt 0 (c % 8) then some (c - 1) else none
def mz_rs (s : Nat) : Int32 := match s with | 0 => -1 | 2 => 1 | _ => 0
def mz_cs (s : Nat) : Int32 := match s with | 1 => 1 | 3 => -1 | _ => 0
def mz_bsck (c s : Nat) : Bool := match mz_bs c s with
  | some c' => !decide (nI c / 8 + mz_rs s < 0) && !decide (7 < nI c / 8 + mz_rs s) && !decide ((nI c - nI c / 8 * 8) + mz_cs s < 0) && decide ((nI c - nI c / 8 * 8) + mz_cs s ≤ 7) && decide ((8 * (nI c / 8 + mz_rs s)) + ((nI c - nI c / 8 * 8) + mz_cs s) = nI c') && decide (c' < 64)
  | none => decide (nI c / 8 + mz_rs s < 0) || decide (7 < nI c / 8 + mz_rs s) || decide ((nI c - nI c / 8 * 8) + mz_cs s < 0) || !decide ((nI c - nI c / 8 * 8) + mz_cs s ≤ 7)
theorem mz_bsok : ∀ c, c < 64 → ∀ s, s < 4 → mz_bsck c s = true := by decide +kernel
theorem mz_bs64 {c s c' : Nat} (hc : c < 64) (hs : s < 4) (e : mz_bs c s = some c') : c' < 64 := by
  have := mz_bsok c hc s hs
  unfold mz_bsck at this
  rw [e] at this
  simp only [Bool.and_eq_true, decide_eq_true_eq] at this
  exact this.2
-- small methods
theorem m_126 (v l : Int32) (h : jx_H) : jx_A 126 [.int v, .int l] h = some (.inl (some (.int (bI (decide (0 ≤ v) && decide (v ≤ l))))), h) := by
  rw [a_126]
  by_cases c1 : v < 0
  · rw [if_pos c1, decide_eq_false (show ¬ (0 : Int32) ≤ v from fun q => Int32.lt_irrefl (Int32.lt_of_lt_of_le c1 q))]; rfl
  · rw [if_neg c1, decide_eq_true (Int32.not_lt.mp c1)]
    by_cases c2 : l < v
    · rw [if_pos c2, decide_eq_false (show ¬ v ≤ l from fun q => Int32.lt_irrefl (Int32.lt_of_lt_of_le c2 q))]; rfl
    · rw [if_neg c2, decide_eq_true (Int32.not_lt.mp c2)]; rfl
theorem m_127 (v : Int32) (h : jx_H) : jx_A 127 [.int v] h = some (.inl (some (.int (bI (decide (97 ≤ v) && decide (v ≤ 102))))), h) := by
  rw [a_127]
  by_cases c1 : v < 97
  · rw [if_pos c1, decide_eq_false (show ¬ (97 : Int32) ≤ v from fun q => Int32.lt_irrefl (Int32.lt_of_lt_of_le c1 q))]; rfl
  · rw [if_neg c1, decide_eq_true (Int32.not_lt.mp c1)]
    by_cases c2 : 102 < v
    · rw [if_pos c2, decide_eq_false (show ¬ v ≤ 102 from fun q => Int32.lt_irrefl (Int32.lt_of_lt_of_le c2 q))]; rfl
    · rw [if_neg c2, decide_eq_true (Int32.not_lt.mp c2)]; rfl
theorem m_128 {s : Nat} (hs : s < 4) (h : jx_H) : jx_A 128 [.int (nI s)] h = some (.inl (some (.int (nI ((s + 2) % 4)))), h) := by rw [a_128, mz_opp s hs]
theorem m_21 (H : bd_I h a n nx p A g) {i : Nat} (hi : i < 20) : jx_A 21 [.ref (bd_f a i)] h = some (.inl (some (.int (bI (fg_on (A i))))), h) := by
  rw [a_21, bd_fce H hi]
  have := mz_neg1 _ (bd_ok H hi).2.2.2.2
  by_cases c : fg_ce (A i) = 0
  · rw [if_pos (this.mpr c)]; unfold fg_on; rw [c]; rfl
  · rw [if_neg (fun q => c (this.mp q))]; unfold fg_on; rw [bne_iff_ne.mpr c]; rfl
theorem m_22 (H : bd_I h a n nx p A g) {i s : Nat} (hi : i < 20) (hs : s < 4) : jx_A 22 [.ref (bd_f a i), .int (nI s)] h = some (.inl (some (.int (nI (fg_at (A i) s)))), h) := by
  rw [a_22, bd_fed H hi, bd_ftn H hi, mz_sub3 s hs _ (bd_ok H hi).2.2.2.1, bd_fel H hi (by omega)]
  rfl
/-- the first place, of those below n, of a fragment with an id -/
def bd_fd (n : Nat) (F : Nat → fg_T) (v : Int32) (o : Option Nat) : Prop := match o with
  | some k => k < n ∧ nI (fg_id (F k)) = v ∧ ∀ j, j < k → nI (fg_id (F j)) ≠ v
  | none => ∀ j, j < n → nI (fg_id (F j)) ≠ v
theorem m_2 (H : bd_I h a n nx p A g) (v : Int32) : ∃ o, bd_fd n (fun k => A (p k)) v o ∧ jx_A 2 [.ref a, .int v] h = some (.inl (some (.int (match o with | some k => nI k | none => -1))), h) := by
  rw [a_2]
  have hn := bd_n20 H
  have := mz_sr (γ := Unit) (fun i _ => jx_E 2 2 [.ref a, .int v, .int (nI i)] [] h) n (fun i => nI (fg_id (A (p i))) = v) (fun i => some (.inl (some (.int (nI i))), h)) (some (.inl (some (.int (-1))), h))
    (fun _ => by rw [b_2_2, bd_n H, if_pos (nI_le (Nat.le_refl _) (by omega))])
    (fun i _ hi => by
      have e : jx_E 2 2 [.ref a, .int v, .int (nI i)] [] h = if nI (fg_id (A (p i))) = v then some (.inl (some (.int (nI i))), h) else jx_E 2 2 [.ref a, .int v, .int (nI (i + 1))] [] h := by
        rw [b_2_2, bd_n H, if_neg (nI_ge hi (by omega)), bd_fr H, bd_at H (by omega), bd_fid H (bd_p H hi), nI_1]
      by_cases c : nI (fg_id (A (p i))) = v
      · exact Or.inl ⟨c, by rw [e, if_pos c]⟩
      · exact Or.inr ⟨c, (), by rw [e, if_neg c]⟩) ()
  rcases this with ⟨i, h1, h2, h3, h4⟩ | ⟨h1, h2⟩
  · exact ⟨some i, ⟨h1, h2, h3⟩, h4⟩
  · exact ⟨none, h1, h2⟩
theorem mz_nIne {k : Nat} (hk : k < 2 ^ 31) : ¬ nI k = (-1 : Int32) := by
  intro q
  have := congrArg Int32.toInt q
  rw [nI_toInt hk] at this
  have e : (-1 : Int32).toInt = -1 := by decide
  rw [e] at this
  omega
theorem m_3 (H : bd_I h a n nx p A g) (v : Int32) : ∃ o, bd_fd n (fun k => A (p k)) v o ∧ jx_A 3 [.ref a, .int v] h = some (.inl (some (bd_v a (o.map p))), h) := by
  obtain ⟨o, h1, h2⟩ := m_2 H v
  refine ⟨o, h1, ?_⟩
  rw [a_3, bd_is H, jx_cI_e h2]
  cases o with
  | none => rfl
  | some k =>
    have hn := bd_n20 H
    have hk : k < n := h1.1
    show (if nI k = -1 then _ else _) = _
    rw [if_neg (mz_nIne (by omega)), bd_fr H, bd_at H (by omega)]
    rfl
theorem m_4 (H : bd_I h a n nx p A g) : jx_A 4 [.ref a] h = some (.inl (some (.int (nI (mz_su (fun k => (fg_on (A (p k))).toNat) n)))), h) := by
  rw [a_4]
  have hn := bd_n20 H
  refine mz_lp (fun i => jx_E 4 4 [.ref a, .int (nI (mz_su (fun k => (fg_on (A (p k))).toNat) i)), .int (nI i)] [] h) n _ ?_ ?_ 0 (Nat.zero_le _)
  · show jx_E 4 4 _ _ _ = _
    rw [b_4_4, bd_n H, if_pos (nI_le (Nat.le_refl _) (by omega))]
  · intro i hi
    show jx_E 4 4 _ _ _ = jx_E 4 4 _ _ _
    rw [b_4_4, bd_n H, if_neg (nI_ge hi (by omega)), bd_fr H, bd_at H (by omega), bd_fis H (bd_p H hi), jx_cI_e (m_21 H (bd_p H hi)), nI_1, nI_1]
    show _ = jx_E 4 4 [.ref a, .int (nI (mz_su (fun k => (fg_on (A (p k))).toNat) i + (fg_on (A (p i))).toNat)), .int (nI (i + 1))] [] h
    cases fg_on (A (p i)) with
    | true => rw [if_neg (by decide)]; rfl
    | false => rw [if_pos (by decide)]; rfl
/-- the place of the fragment of the tray that has so many ahead -/
def bd_tr (n : Nat) (F : Nat → fg_T) (v : Int32) (o : Option Nat) : Prop := match o with
  | some k => k < n ∧ fg_on (F k) = false ∧ nI (mz_su (fun j => (!fg_on (F j)).toNat) k) = v
  | none => ∀ k, k < n → ¬ (fg_on (F k) = false ∧ nI (mz_su (fun j => (!fg_on (F j)).toNat) k) = v)
theorem m_5 (H : bd_I h a n nx p A g) (v : Int32) : ∃ o, bd_tr n (fun k => A (p k)) v o ∧ jx_A 5 [.ref a, .int v] h = some (.inl (some (bd_v a (o.map p))), h) := by
  rw [a_5]
  have hn := bd_n20 H
  have := mz_sr (γ := Unit) (fun i _ => jx_E 5 4 [.ref a, .int v, .int (nI (mz_su (fun j => (!fg_on (A (p j))).toNat) i)), .int (nI i)] [] h) n (fun i => fg_on (A (p i)) = false ∧ nI (mz_su (fun j => (!fg_on (A (p j))).toNat) i) = v) (fun i => some (.inl (some (.ref (bd_f a (p i)))), h)) (some (.inl (some .null), h))
    (fun _ => by
      show jx_E 5 4 _ _ _ = _
      rw [b_5_4, bd_n H, if_pos (nI_le (Nat.le_refl _) (by omega))])
    (fun i _ hi => by
      have e : jx_E 5 4 [.ref a, .int v, .int (nI (mz_su (fun j => (!fg_on (A (p j))).toNat) i)), .int (nI i)] [] h = if fg_on (A (p i)) = false ∧ nI (mz_su (fun j => (!fg_on (A (p j))).toNat) i) = v then some (.inl (some (.ref (bd_f a (p i)))), h) else jx_E 5 4 [.ref a, .int v, .int (nI (mz_su (fun j => (!fg_on (A (p j))).toNat) (i + 1))), .int (nI (i + 1))] [] h := by
        rw [b_5_4, bd_n H, if_neg (nI_ge hi (by omega)), bd_fr H, bd_at H (by omega), bd_fis H (bd_p H hi), jx_cI_e (m_21 H (bd_p H hi)), nI_1, nI_1]
        show _ = if _ then _ else jx_E 5 4 [.ref a, .int v, .int (nI (mz_su (fun j => (!fg_on (A (p j))).toNat) i + (!fg_on (A (p i))).toNat)), .int (nI (i + 1))] [] h
        cases fg_on (A (p i)) with
        | true => rw [if_neg (by decide), if_neg (fun q => by cases q.1)]; rfl
        | false =>
          rw [if_pos (by decide)]
          by_cases c : nI (mz_su (fun j => (!fg_on (A (p j))).toNat) i) = v
          · rw [if_pos c, if_pos ⟨rfl, c⟩, bd_fr H, bd_at H (by omega)]
          · rw [if_neg c, if_neg (fun q => c q.2)]; rfl
      by_cases c : fg_on (A (p i)) = false ∧ nI (mz_su (fun j => (!fg_on (A (p j))).toNat) i) = v
      · exact Or.inl ⟨c, by show jx_E 5 4 _ _ _ = _; rw [e, if_pos c]⟩
      · exact Or.inr ⟨c, (), by show jx_E 5 4 _ _ _ = _; rw [e, if_neg c]⟩) ()
  rcases this with ⟨i, h1, h2, h3, h4⟩ | ⟨h1, h2⟩
  · exact ⟨some i, ⟨h1, h2⟩, h4⟩
  · exact ⟨none, h1, h2⟩
end BD
end JX
