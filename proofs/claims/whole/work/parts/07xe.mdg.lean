/-! The other object's guesses. -/
section JX
/-- ids go up -/
def rq_A (n : Nat) (p : Nat → Nat) (A : Nat → fg_T) : Prop := ∀ j k, j < k → k < n → fg_id (A (p j)) < fg_id (A (p k))
theorem rq_AU {n : Nat} {p : Nat → Nat} {A : Nat → fg_T} (H : rq_A n p A) : rq_U n p A := fun j k hj hk e => by
  rcases Nat.lt_trichotomy j k with c | c | c
  · have := H j k c hk; omega
  · exact c
  · have := H k j c hj; omega
/-- one guess is better than another one -/
def mm_bb (tw : Nat → Int) (j k : Nat) : Prop := tw k < tw j ∨ (tw j = tw k ∧ j < k)
theorem mm_bb_tr {tw : Nat → Int} {i j k : Nat} (a : mm_bb tw i j) (b : mm_bb tw j k) : mm_bb tw i k := by unfold mm_bb at *; omega
theorem mm_bb_ir {tw : Nat → Int} {k : Nat} : ¬ mm_bb tw k k := by unfold mm_bb; omega
theorem mm_rk_z {n : Nat} {F : Nat → fg_T} {tw : Nat → Int} {k : Nat} (H : ∀ j, j < n → fg_on (F j) = false → ¬ mm_bb tw j k) : mm_rk n F tw k = 0 := by
  unfold mm_rk
  rw [mz_su_cong (g := fun _ => 0) (fun j hj => ?_), mz_su_z]
  cases e : fg_on (F j) with
  | true => rfl
  | false =>
    have := H j hj e
    unfold mm_bb at this
    have a : decide (tw k < tw j) = false := decide_eq_false (by omega)
    rw [a]
    by_cases c : tw j = tw k
    · have b : Nat.blt j k = false := by rw [Bool.eq_false_iff]; intro w; have := Nat.blt_eq.mp w; omega
      rw [b, Bool.and_false]; rfl
    · rw [decide_eq_false c]; rfl
theorem mm_rk_z' {n : Nat} {F : Nat → fg_T} {tw : Nat → Int} {k : Nat} (H : mm_rk n F tw k = 0) : ∀ j, j < n → fg_on (F j) = false → ¬ mm_bb tw j k := by
  intro j hj e b
  have le : ∀ m, j < m → 1 ≤ mz_su (fun j => (!fg_on (F j) && (decide (tw k < tw j) || (decide (tw j = tw k) && Nat.blt j k))).toNat) m := by
    intro m
    induction m with
    | zero => intro h; omega
    | succ m ih =>
      intro h
      show 1 ≤ mz_su _ m + (!fg_on (F m) && (decide (tw k < tw m) || (decide (tw m = tw k) && Nat.blt m k))).toNat
      by_cases c : j = m
      · subst c
        rw [e]
        unfold mm_bb at b
        have : (decide (tw k < tw j) || (decide (tw j = tw k) && Nat.blt j k)) = true := by
          rcases b with b | ⟨b1, b2⟩
          · rw [decide_eq_true b]; rfl
          · rw [decide_eq_true b1, Nat.blt_eq.mpr b2]; simp
        rw [this]
        exact Nat.le_add_left _ _
      · have := ih (by omega)
        omega
  have := le n hj
  unfold mm_rk at H
  omega
theorem mm_mx_le {F : Nat → fg_T} {tw : Nat → Int} {T : Int} (h0 : 0 ≤ T) : ∀ n, (∀ j, j < n → fg_on (F j) = false → tw j ≤ T) → mm_mx 0 F tw n ≤ T
  | 0, _ => h0
  | n + 1, h => by
    have i := mm_mx_le h0 n (fun j hj => h j (by omega))
    unfold mm_mx
    cases e : fg_on (F n) with
    | true => exact i
    | false =>
      have := h n (Nat.lt_succ_self n) e
      show (if _ then _ else _) ≤ T
      split <;> omega
theorem mm_mx_ge {F : Nat → fg_T} {tw : Nat → Int} {k : Nat} : ∀ n, k < n → fg_on (F k) = false → tw k ≤ mm_mx 0 F tw n
  | n + 1, h, e => by
    unfold mm_mx
    by_cases c : k = n
    · subst c
      rw [e]
      show _ ≤ (if _ then _ else _)
      split <;> omega
    · have i := mm_mx_ge (tw := tw) n (by omega) e
      cases fg_on (F n) with
      | true => exact i
      | false =>
        show _ ≤ (if _ then _ else _)
        split <;> omega
section RQ
variable {h : jx_H} {y : Nat} {fs : List Value} {S : Nat → Nat} {n nx : Nat} {p : Nat → Nat} {A : Nat → fg_T} {g : Nat → Option Nat}
theorem m_183 (J : rq_J h y fs S n nx p A g) {k c t : Nat} (hk : k < n) (hc : c < 64) (ht : t < 4) : jx_A 183 [.ref y, .int (nI (p k)), .int (nI c), .int (nI t)] h = some (.inl (some (.int (zI (mm_wt (bd_o A g) (A (p k)) c t)))), h) := by
  have hn := rq_n J
  rw [a_183]
  refine mz_lpj (γ := Value) (fun i v => jx_E 183 6 [.ref y, .int (nI (p k)), .int (nI c), .int (nI t), .int (zI (mz_sz (mm_w1 (bd_o A g) (A (p k)) c t) i)), .int (nI i), v] [] h) 4 _ ?_ ?_ 0 jx_j (by decide)
  · intro v
    rw [b_183_6, if_pos (by decide)]; rfl
  · intro i v hi
    show ∃ v', jx_E 183 6 _ _ _ = jx_E 183 6 [.ref y, .int (nI (p k)), .int (nI c), .int (nI t), .int (zI (mz_sz (mm_w1 (bd_o A g) (A (p k)) c t) i + mm_w1 (bd_o A g) (A (p k)) c t i)), .int (nI (i + 1)), v'] [] h
    refine ⟨.int (zO ((mz_bs c i).bind g)), ?_⟩
    rw [b_183_6, if_neg (show ¬ 4 ≤ nI i from nI_ge (b := 4) hi (by decide)), rq_is J, jx_cI_e (m_152 J hc hi), nI_1]
    unfold mm_w1
    rw [rq_o]
    cases e : (mz_bs c i).bind g with
    | none => rw [if_pos (show zO none < 0 by decide)]; show _ = jx_E 183 6 [_, _, _, _, .int (zI (_ + 0)), _, _] [] h; rw [Int.add_zero]
    | some i' =>
      obtain ⟨k', hk', rfl⟩ := rq_nb J hc hi e
      have pk' := rq_p J (show k' < 20 by omega)
      have o1 := rq_ok J hk
      have o2 := rq_ok J hk'
      have t1 := o1.2.2.1 ((i + 4 - t) % 4)
      have t2 := fg_at_lt o2 ((i + 2) % 4)
      rw [if_neg (show ¬ zO (some (p k')) < 0 from nI_pos (by omega)), rq_is J, jx_cI_e (m_153 J hk hi ht), rq_is J, jx_cI_e (m_154 J hc hi hk' e), nI_add]
      have E55 : ∀ (s0 : Int) (s1 : Int), jx_E 183 55 [.ref y, .int (nI (p k)), .int (nI c), .int (nI t), .int (zI s1), .int (nI i), .int (zO (some (p k')))] [.int (zI s0), .int (zI s1)] h = jx_E 183 6 [.ref y, .int (nI (p k)), .int (nI c), .int (nI t), .int (zI (s1 + (s0 + (bif fg_co (A (p k)) == fg_co (A (p k')) then 1 else 0)))), .int (nI (i + 1)), .int (zO (some (p k')))] [] h := by
        intro s0 s1
        rw [b_183_55, rq_is J, jx_cI_e (m_140f J hk), rq_is J, show zO (some (p k')) = nI (p k') from rfl, jx_cI_e (m_140f J hk'), zI_add, nI_1]
        by_cases z : fg_co (A (p k)) = fg_co (A (p k'))
        · rw [if_pos (by rw [z]), z, show (fg_co (A (p k')) == fg_co (A (p k'))) = true by simp, show zI (s1 + s0) + 1 = zI (s1 + s0 + 1) from zI_add _ 1, Int.add_assoc]; rfl
        · rw [if_neg (fun q => z ((nI_eq (by have := o1.2.1; omega) (by have := o2.2.1; omega)).mp q)), show (fg_co (A (p k)) == fg_co (A (p k'))) = false by simpa using z, Int32.add_zero]
          show _ = jx_E 183 6 [_, _, _, _, .int (zI (s1 + (s0 + 0))), _, _] [] h
          rw [Int.add_zero]
      show (if nI (fg_ed (A (p k)) ((i + 4 - t) % 4) + fg_at (A (p k')) ((i + 2) % 4)) = nI 15 then _ else _) = jx_E 183 6 [_, _, _, _, .int (zI (_ + ((bif (fg_ed (A (p k)) ((i + 4 - t) % 4) + fg_at (A (p k')) ((i + 2) % 4) == 15) then 4 else -3) + (bif fg_co (A (p k)) == fg_co (A (p k')) then 1 else 0)))), _, _] [] h
      by_cases z : fg_ed (A (p k)) ((i + 4 - t) % 4) + fg_at (A (p k')) ((i + 2) % 4) = 15
      · rw [if_pos (by rw [z]), z]; exact E55 4 _
      · rw [if_neg (fun q => z ((nI_eq (by omega) (by decide)).mp q)), show (fg_ed (A (p k)) ((i + 4 - t) % 4) + fg_at (A (p k')) ((i + 2) % 4) == 15) = false by simpa using z]; exact E55 (-3) _
theorem m_184 (J : rq_J h y fs S n nx p A g) {k c : Nat} (hk : k < n) (hc : c < 64) : jx_A 184 [.ref y, .int (nI (p k)), .int (nI c)] h = some (.inl (some (.int (nI (mm_tn (bd_o A g) (A (p k)) c)))), h) := by
  rw [a_184]
  refine mz_lp (fun i => jx_E 184 5 [.ref y, .int (nI (p k)), .int (nI c), .int (nI (mm_bt (mm_wt (bd_o A g) (A (p k)) c) i)), .int (nI (i + 1))] [] h) 3 _ ?_ ?_ 0 (by decide)
  · rw [b_184_5, if_pos (by decide)]; rfl
  · intro i hi
    have bl := mm_bt_le (mm_wt (bd_o A g) (A (p k)) c) i
    have w1 := mm_wt_b (bd_o A g) (A (p k)) c (i + 1)
    have w2 := mm_wt_b (bd_o A g) (A (p k)) c (mm_bt (mm_wt (bd_o A g) (A (p k)) c) i)
    show jx_E 184 5 _ _ _ = jx_E 184 5 [.ref y, .int (nI (p k)), .int (nI c), .int (nI (if mm_wt (bd_o A g) (A (p k)) c (mm_bt (mm_wt (bd_o A g) (A (p k)) c) i) < mm_wt (bd_o A g) (A (p k)) c (i + 1) then i + 1 else mm_bt (mm_wt (bd_o A g) (A (p k)) c) i)), .int (nI (i + 1 + 1))] [] h
    rw [b_184_5, if_neg (show ¬ 4 ≤ nI (i + 1) from nI_ge (b := 4) (by omega) (by decide)), rq_is J, jx_cI_e (m_183 J hk hc (by omega)), rq_is J, jx_cI_e (m_183 J hk hc (by omega)), nI_1]
    by_cases z : mm_wt (bd_o A g) (A (p k)) c (mm_bt (mm_wt (bd_o A g) (A (p k)) c) i) < mm_wt (bd_o A g) (A (p k)) c (i + 1)
    · rw [if_neg (fun q => (by have := (zI_le (by omega) (by omega) (by omega) (by omega)).mp q; omega)), if_pos z]
    · rw [if_pos ((zI_le (by omega) (by omega) (by omega) (by omega)).mpr (by omega)), if_neg z]
theorem m_185 (J : rq_J h y fs S n nx p A g) {k c : Nat} (hk : k < n) (hc : c < 64) : jx_A 185 [.ref y, .int (nI (p k)), .int (nI c)] h = some (.inl (some (.int (zI (mm_tw (bd_o A g) (A (p k)) c)))), h) := by
  have bl := mm_bt_le (mm_wt (bd_o A g) (A (p k)) c) 3
  rw [a_185, rq_is J, jx_cI_e (m_184 J hk hc), rq_is J, jx_cI_e (m_183 J hk hc (show mm_tn (bd_o A g) (A (p k)) c < 4 from Nat.lt_succ_of_le bl))]; rfl
theorem mm_tw_q (o : Nat → Option fg_T) (f : fg_T) (c : Nat) : -12 ≤ mm_tw o f c ∧ mm_tw o f c ≤ 20 := mm_wt_b o f c _
theorem m_186 (J : rq_J h y fs S n nx p A g) (U : rq_A n p A) {j k c : Nat} (hj : j < n) (hk : k < n) (hc : c < 64) :
    (mm_bb (fun k => mm_tw (bd_o A g) (A (p k)) c) j k ∧ jx_A 186 [.ref y, .int (nI (p j)), .int (nI (p k)), .int (nI c)] h = some (.inl (some (.int 1)), h)) ∨
    (¬ mm_bb (fun k => mm_tw (bd_o A g) (A (p k)) c) j k ∧ jx_A 186 [.ref y, .int (nI (p j)), .int (nI (p k)), .int (nI c)] h = some (.inl (some (.int 0)), h)) := by
  have b1 := mm_tw_q (bd_o A g) (A (p j)) c
  have b2 := mm_tw_q (bd_o A g) (A (p k)) c
  have E : jx_A 186 [.ref y, .int (nI (p j)), .int (nI (p k)), .int (nI c)] h = if 0 < zI (mm_tw (bd_o A g) (A (p j)) c - mm_tw (bd_o A g) (A (p k)) c) then (some (.inl (some (.int 1)), h)) else (if zI (mm_tw (bd_o A g) (A (p j)) c - mm_tw (bd_o A g) (A (p k)) c) = 0 then (if nI (fg_id (A (p k))) ≤ nI (fg_id (A (p j))) then (some (.inl (some (.int 0)), h)) else (some (.inl (some (.int 1)), h))) else (some (.inl (some (.int 0)), h))) := by
    rw [a_186, rq_is J, jx_cI_e (m_185 J hj hc), rq_is J, jx_cI_e (m_185 J hk hc), zI_sub, rq_is J, jx_cI_e (m_143 J hj), rq_is J, jx_cI_e (m_143 J hk)]
  rw [E]
  unfold mm_bb
  dsimp only
  by_cases z : mm_tw (bd_o A g) (A (p k)) c < mm_tw (bd_o A g) (A (p j)) c
  · exact Or.inl ⟨Or.inl z, if_pos ((zI_lt (a := 0) (by omega) (by omega) (by omega) (by omega)).mpr (by omega))⟩
  · rw [if_neg (fun q => (by have := (zI_lt (a := 0) (by omega) (by omega) (by omega) (by omega)).mp q; omega))]
    by_cases z2 : mm_tw (bd_o A g) (A (p j)) c = mm_tw (bd_o A g) (A (p k)) c
    · rw [if_pos (by rw [z2, Int.sub_self]; rfl)]
      have i1 := (rq_ok J hj).1
      have i2 := (rq_ok J hk).1
      by_cases z3 : j < k
      · have := U j k z3 hk
        exact Or.inl ⟨Or.inr ⟨z2, z3⟩, if_neg (nI_ge this (by omega))⟩
      · have : fg_id (A (p k)) ≤ fg_id (A (p j)) := by
          by_cases w : k = j
          · rw [w]; exact Nat.le_refl _
          · have := U k j (by omega) hj; omega
        exact Or.inr ⟨by omega, if_pos (nI_le this (by omega))⟩
    · exact Or.inr ⟨by omega, if_neg (fun q => (by have := (zI_eq (b := 0) (by omega) (by omega) (by omega) (by omega)).mp q; omega))⟩
/-- the best guess -/
theorem m_187 (J : rq_J h y fs S n nx p A g) (U : rq_A n p A) {c : Nat} (hc : c < 64) : ∃ o, mm_gr n (fun k => A (p k)) (fun k => mm_tw (bd_o A g) (A (p k)) c) 0 o ∧ jx_A 187 [.ref y, .int (nI c)] h = some (.inl (some (.int (match o with | some k => nI (p k) | none => -1))), h) := by
  have hn := rq_n J
  have W := rq_W J
  rw [a_187]
  refine mz_inv (γ := Int32) (fun i r => jx_E 187 4 [.ref y, .int (nI c), .int r, .int (nI i)] [] h)
    (fun i r => (r = -1 ∧ ∀ k, k < n → p k < i → fg_on (A (p k)) = true) ∨ (∃ k, k < n ∧ fg_on (A (p k)) = false ∧ p k < i ∧ r = nI (p k) ∧ ∀ j, j < n → p j < i → fg_on (A (p j)) = false → ¬ mm_bb (fun k => mm_tw (bd_o A g) (A (p k)) c) j k)) 20
    (fun X => ∃ o, mm_gr n (fun k => A (p k)) (fun k => mm_tw (bd_o A g) (A (p k)) c) 0 o ∧ X = some (.inl (some (.int (match o with | some k => nI (p k) | none => -1))), h)) ?_ ?_ 0 (-1) (by decide) (Or.inl ⟨rfl, fun k _ hk => absurd hk (Nat.not_lt_zero _)⟩)
  · intro r I
    have e : jx_E 187 4 [.ref y, .int (nI c), .int r, .int (nI 20)] [] h = some (.inl (some (.int r)), h) := by rw [b_187_4, if_pos (by decide)]
    rcases I with ⟨rfl, I⟩ | ⟨k, hk, hl, -, rfl, I⟩
    · refine ⟨none, fun k hk q => ?_, e⟩
      rw [I k hk (rq_p J (by omega))] at q
      cases q.1
    · exact ⟨some k, ⟨hk, hl, by rw [mm_rk_z (fun j hj hl => I j hj (rq_p J (by omega)) hl)]; rfl⟩, e⟩
  · intro i r hi I
    right
    obtain ⟨k', hk', rfl⟩ := mz_surj (fun k hk => rq_p J hk) W.1 hi
    have E : jx_E 187 4 [.ref y, .int (nI c), .int r, .int (nI (p k'))] [] h = if bI (Nat.blt k' n && !fg_on (A (p k'))) = 0 then jx_E 187 4 [.ref y, .int (nI c), .int r, .int (nI (p k' + 1))] [] h else (if r < 0 then (jx_E 187 4 [.ref y, .int (nI c), .int (nI (p k')), .int (nI (p k' + 1))] [] h) else (jx_cI jx_A 186 [.ref y, .int (nI (p k')), .int r, .int (nI c)] h (fun y4 h3 => if y4 = 0 then (jx_E 187 4 [.ref y, .int (nI c), .int r, .int (nI (p k' + 1))] [] h3) else (jx_E 187 4 [.ref y, .int (nI c), .int (nI (p k')), .int (nI (p k' + 1))] [] h3)))) := by
      rw [b_187_4, if_neg (show ¬ 20 ≤ nI (p k') from nI_ge (b := 20) hi (by decide)), rq_is J, jx_cI_e (m_147 J hk'), rq_is J, nI_1]
    by_cases z : k' < n ∧ fg_on (A (p k')) = false
    · rw [show (Nat.blt k' n && !fg_on (A (p k'))) = true from by rw [z.2, Nat.blt_eq.mpr z.1]; rfl, if_neg (by decide)] at E
      rcases I with ⟨rfl, I⟩ | ⟨k, hk, hl, hp, rfl, I⟩
      · refine ⟨nI (p k'), Or.inr ⟨k', z.1, z.2, Nat.lt_succ_self _, rfl, fun j hj hp hl => ?_⟩, ?_⟩
        · by_cases w : j = k'
          · subst w; exact mm_bb_ir
          · have : p j ≠ p k' := fun q => w (W.1 j k' (by omega) hk' q)
            rw [I j hj (by omega)] at hl; cases hl
        · show jx_E 187 4 _ _ _ = jx_E 187 4 _ _ _
          rw [E, if_pos (by decide)]
      · have pk := rq_p J (show k < 20 by omega)
        rw [if_neg (nI_pos (by omega))] at E
        rcases m_186 J U z.1 hk hc with ⟨b, x⟩ | ⟨b, x⟩
        · refine ⟨nI (p k'), Or.inr ⟨k', z.1, z.2, Nat.lt_succ_self _, rfl, fun j hj hp2 hl2 b2 => ?_⟩, ?_⟩
          · by_cases w : j = k'
            · subst w; exact mm_bb_ir b2
            · have : p j ≠ p k' := fun q => w (W.1 j k' (by omega) hk' q)
              exact I j hj (by omega) hl2 (mm_bb_tr b2 b)
          · show jx_E 187 4 _ _ _ = jx_E 187 4 _ _ _
            rw [E, jx_cI_e x, if_neg (by decide)]
        · refine ⟨nI (p k), Or.inr ⟨k, hk, hl, by omega, rfl, fun j hj hp2 hl2 => ?_⟩, ?_⟩
          · by_cases w : j = k'
            · subst w; exact b
            · have : p j ≠ p k' := fun q => w (W.1 j k' (by omega) hk' q)
              exact I j hj (by omega) hl2
          · show jx_E 187 4 _ _ _ = jx_E 187 4 _ _ _
            rw [E, jx_cI_e x, if_pos rfl]
    · refine ⟨r, ?_, ?_⟩
      · have nj : ∀ j, j < n → p j < p k' + 1 → fg_on (A (p j)) = false → p j < p k' := fun j hj hp hl => by
          by_cases w : j = k'
          · subst w; exact absurd ⟨hj, hl⟩ z
          · have : p j ≠ p k' := fun q => w (W.1 j k' (by omega) hk' q)
            omega
        rcases I with ⟨rfl, I⟩ | ⟨k, hk, hl, hp, rfl, I⟩
        · refine Or.inl ⟨rfl, fun j hj hp => ?_⟩
          cases w : fg_on (A (p j)) with
          | true => rfl
          | false => have := I j hj (nj j hj hp w); rw [w] at this; cases this
        · exact Or.inr ⟨k, hk, hl, by omega, rfl, fun j hj hp2 hl2 => I j hj (nj j hj hp2 hl2) hl2⟩
      · show jx_E 187 4 _ _ _ = jx_E 187 4 _ _ _
        rw [E, if_pos]
        have : (Nat.blt k' n && !fg_on (A (p k'))) = false := by
          rw [Bool.eq_false_iff]
          intro w
          simp only [Bool.and_eq_true, Bool.not_eq_true'] at w
          exact z ⟨Nat.blt_eq.mp w.1, w.2⟩
        rw [this]; rfl
theorem m_135r (v : Int32) (N : Nat) (hN : N < 1000) (h : jx_H) : (∃ j, j ≤ N ∧ v = nI j ∧ jx_A 135 [.int v, .int 0, .int (nI N)] h = some (.inl (some (.int 1)), h)) ∨ ((∀ j, j ≤ N → v ≠ nI j) ∧ jx_A 135 [.int v, .int 0, .int (nI N)] h = some (.inl (some (.int 0)), h)) := by
  have e : jx_A 135 [.int v, .int 0, .int (nI N)] h = jx_A 126 [.int v, .int (nI N)] h := by rw [m_135, m_126]
  rw [e]
  exact m_126r v N hN h
theorem m_149q (v w : Int32) (h : jx_H) : ∃ o, q_cell v w o ∧ jx_A 149 [.int v, .int w] h = some (.inl (some (.int (bI o.isSome))), h) := by
  rcases m_135r v 7 (by decide) h with ⟨i, hi, rfl, q⟩ | ⟨ht, q⟩
  · rcases m_135r w 7 (by decide) h with ⟨j, hj, rfl, q2⟩ | ⟨ht, q2⟩
    · exact ⟨some (8 * i + j), ⟨i, j, rfl, hi, rfl, hj, rfl⟩, by rw [a_149, jx_cI_e (show jx_A 135 [.int (nI i), .int 0, .int 7] h = _ from q), if_neg (by decide), jx_cI_e (show jx_A 135 [.int (nI j), .int 0, .int 7] h = _ from q2), if_neg (by decide)]; rfl⟩
    · exact ⟨none, Or.inr ht, by rw [a_149, jx_cI_e (show jx_A 135 [.int (nI i), .int 0, .int 7] h = _ from q), if_neg (by decide), jx_cI_e (show jx_A 135 [.int w, .int 0, .int 7] h = _ from q2), if_pos rfl]; rfl⟩
  · exact ⟨none, Or.inl ht, by rw [a_149, jx_cI_e (show jx_A 135 [.int v, .int 0, .int 7] h = _ from q), if_pos rfl]; rfl⟩
theorem mz_8n : ∀ i, i < 8 → ∀ j, j < 8 → (8 * nI i) + nI j = nI (8 * i + j) := by decide +kernel
theorem mz_161n : ∀ i, i < 8 → ∀ j, j < 8 → ((161 : Int32) + (8 * nI i)) + nI j = 161 + nI (8 * i + j) := by decide +kernel
/-- 1 beyond the grid, 2 no gap -/
def zN (o : Nat → Option fg_T) (c : Option Nat) : Int32 := match c with | none => 1 | some c => bif mm_gap o c then 0 else 2
theorem q_64 {v w : Int32} {c : Nat} (q : q_cell v w (some c)) : c < 64 := by
  obtain ⟨i, j, -, hi, -, hj, rfl⟩ := q; omega
theorem m_189 (J : rq_J h y fs S n nx p A g) (v w : Int32) : ∃ c, q_cell v w c ∧ jx_A 189 [.ref y, .int v, .int w] h = some (.inl (some (.int (zN (bd_o A g) c))), h) := by
  obtain ⟨c, q, e⟩ := m_149q v w h
  refine ⟨c, q, ?_⟩
  rw [a_189, jx_cI_e e]
  cases c with
  | none => rw [if_pos (show bI _ = 0 from rfl)]; rfl
  | some c =>
    have hc := q_64 q
    obtain ⟨i, j, rfl, hi, rfl, hj, rfl⟩ := q
    rw [if_neg (show ¬ bI (some (8 * i + j)).isSome = 0 from (by decide : ¬ bI true = 0)), rq_is J, mz_8n i (by omega) j (by omega), jx_cI_e (m_159 J hc)]
    unfold zN
    dsimp only
    cases mm_gap (bd_o A g) (8 * i + j) with
    | false => rw [if_pos (show bI false = 0 from rfl)]; rfl
    | true => rw [if_neg (by decide)]; rfl
theorem m_246z (a b : Int) (ha : -1000 ≤ a ∧ a ≤ 1000) (hb : -1000 ≤ b ∧ b ≤ 1000) (h : jx_H) : jx_A 246 [.int (zI a), .int (zI b)] h = some (.inl (some (.int (zI (if a < b then b else a)))), h) := by
  rw [a_246]
  by_cases c : a < b
  · rw [if_pos ((zI_lt (by omega) (by omega) (by omega) (by omega)).mpr c), if_pos c]
  · rw [if_neg (fun q => c ((zI_lt (by omega) (by omega) (by omega) (by omega)).mp q)), if_neg c]
theorem mm_bg_b (o : Nat → Option fg_T) (n : Nat) (F : Nat → fg_T) : ∀ c, 0 ≤ (mm_bg n F o c).2 ∧ (mm_bg n F o c).2 ≤ 20 ∧ -1 ≤ (mm_bg n F o c).1 ∧ (mm_bg n F o c).1 < c := by
  intro c
  induction c with
  | zero => exact ⟨(by decide : (0 : Int) ≤ 0), (by decide : (0 : Int) ≤ 20), (by decide : (-1 : Int) ≤ -1), (by decide : (-1 : Int) < 0)⟩
  | succ c ih =>
    unfold mm_bg
    have pt : 0 ≤ mm_pt n F o c ∧ mm_pt n F o c ≤ 20 := by
      unfold mm_pt
      cases mm_gap o c with
      | false => exact ⟨Int.le_refl _, (by decide : (0 : Int) ≤ 20)⟩
      | true => exact ⟨(mm_mx_pos n).1, mm_mx_le (by decide) n (fun j _ _ => (mm_tw_b o (F j) c).2)⟩
    split
    · dsimp only; omega
    · omega
theorem m_193 (J : rq_J h y fs S n nx p A g) (U : rq_A n p A) : jx_A 193 [.ref y] h = some (.inl (some (.int (zI (mm_bg n (fun k => A (p k)) (bd_o A g) 64).1))), h) := by
  have hn := rq_n J
  rw [a_193]
  by_cases c0 : ∃ k, k < n ∧ fg_on (A (p k)) = false
  · obtain ⟨k0, hk0, hl0⟩ := c0
    have m148 := m_148 J true
    have ps : ¬ nI (mz_su (fun k => (bif true then !fg_on (A (p k)) else true).toNat) n) ≤ 0 := by
      have le : mz_su (fun k => (bif true then !fg_on (A (p k)) else true).toNat) n ≤ n * 1 := mz_su_le fun k _ => by
        show (!fg_on (A (p k))).toNat ≤ 1
        cases fg_on (A (p k)) <;> decide
      have ge : ∀ m, k0 < m → 0 < mz_su (fun k => (bif true then !fg_on (A (p k)) else true).toNat) m := by
        intro m
        induction m with
        | zero => intro q; omega
        | succ m ih =>
          intro q
          show 0 < mz_su _ m + (!fg_on (A (p m))).toNat
          by_cases e : k0 = m
          · subst e; rw [hl0]; exact Nat.succ_pos _
          · have := ih (by omega); omega
      exact nI_nle (ge n hk0) (by omega)
    refine mz_lpj (γ := Value) (fun c v => jx_E 193 6 [.ref y, .int (zI (mm_bg n (fun k => A (p k)) (bd_o A g) c).1), .int (zI (mm_bg n (fun k => A (p k)) (bd_o A g) c).2), .int (nI c), v] [] h) 64 _ ?_ ?_ 0 jx_j (by decide)
    · intro v
      rw [b_193_6, if_pos (by decide)]
    · intro c v hc
      have bb := mm_bg_b (bd_o A g) n (fun k => A (p k)) c
      have z0 : (0 : Int32) = zI 0 := rfl
      have E : jx_E 193 6 [.ref y, .int (zI (mm_bg n (fun k => A (p k)) (bd_o A g) c).1), .int (zI (mm_bg n (fun k => A (p k)) (bd_o A g) c).2), .int (nI c), v] [] h = _ := b_193_6 _ _ _ _ _ _
      rw [if_neg (show ¬ 64 ≤ nI c from nI_ge (b := 64) hc (by decide)), rq_is J, jx_cI_e (show jx_A 148 [.ref y, .int 1] h = _ from m148), if_neg ps, rq_is J, jx_cI_e (m_159 J hc)] at E
      show ∃ v', jx_E 193 6 _ _ _ = jx_E 193 6 [.ref y, .int (zI (if (mm_bg n (fun k => A (p k)) (bd_o A g) c).2 < mm_pt n (fun k => A (p k)) (bd_o A g) c then (((c : Nat) : Int), mm_pt n (fun k => A (p k)) (bd_o A g) c) else mm_bg n (fun k => A (p k)) (bd_o A g) c).1), .int (zI (if (mm_bg n (fun k => A (p k)) (bd_o A g) c).2 < mm_pt n (fun k => A (p k)) (bd_o A g) c then (((c : Nat) : Int), mm_pt n (fun k => A (p k)) (bd_o A g) c) else mm_bg n (fun k => A (p k)) (bd_o A g) c).2), .int (nI (c + 1)), v'] [] h
      rw [E]
      unfold mm_pt
      cases gp : mm_gap (bd_o A g) c with
      | false =>
        refine ⟨.int 0, ?_⟩
        rw [if_pos (show bI false = 0 from rfl), if_pos (show (0 : Int32) ≤ zI (mm_bg n (fun k => A (p k)) (bd_o A g) c).2 from (zI_le (a := 0) (by omega) (by omega) (by omega) (by omega)).mpr bb.1), jx_cI_e (show jx_A 246 [.int (zI (mm_bg n (fun k => A (p k)) (bd_o A g) c).2), .int 0] h = _ from m_246z _ 0 (by omega) (by omega) h), nI_1]
        have w : ¬ (mm_bg n (fun k => A (p k)) (bd_o A g) c).2 < 0 := by omega
        dsimp only [cond]
        rw [if_neg w, if_neg w]
      | true =>
        obtain ⟨o, ho, x⟩ := m_187 J U hc
        cases o with
        | none => exact absurd ⟨hl0, by
            obtain ⟨k1, h1, h2, h3⟩ := mm_rk_0 (F := fun k => A (p k)) (tw := fun k => mm_tw (bd_o A g) (A (p k)) c) n ⟨k0, hk0, hl0⟩
            exact absurd ⟨h2, by rw [mm_rk_z (fun j hj hl => h3 j hj hl)]; rfl⟩ (ho k1 h1)⟩ (ho k0 hk0)
        | some k =>
          obtain ⟨hk, hl, hr⟩ := ho
          have r0 : mm_rk n (fun k => A (p k)) (fun k => mm_tw (bd_o A g) (A (p k)) c) k = 0 := by
            have le : mm_rk n (fun k => A (p k)) (fun k => mm_tw (bd_o A g) (A (p k)) c) k ≤ n * 1 := mz_su_le fun j _ => by
              dsimp only
              cases (!fg_on (A (p j)) && (decide (mm_tw (bd_o A g) (A (p k)) c < mm_tw (bd_o A g) (A (p j)) c) || (decide (mm_tw (bd_o A g) (A (p j)) c = mm_tw (bd_o A g) (A (p k)) c) && Nat.blt j k))) <;> decide
            exact (nI_eq (b := 0) (by omega) (by decide)).mp hr
          have nb := mm_rk_z' r0
          have tb := mm_tw_b (bd_o A g) (A (p k)) c
          have m1 : mm_mx 0 (fun k => A (p k)) (fun k => mm_tw (bd_o A g) (A (p k)) c) n ≤ (if 0 < mm_tw (bd_o A g) (A (p k)) c then mm_tw (bd_o A g) (A (p k)) c else 0) := mm_mx_le (by split <;> omega) n (fun j hj hl => by
            have := nb j hj hl
            unfold mm_bb at this
            dsimp only at this ⊢
            split <;> omega)
          have m2 : mm_tw (bd_o A g) (A (p k)) c ≤ mm_mx 0 (fun k => A (p k)) (fun k => mm_tw (bd_o A g) (A (p k)) c) n := mm_mx_ge (F := fun k => A (p k)) (tw := fun k => mm_tw (bd_o A g) (A (p k)) c) n hk hl
          have m3 := (mm_mx_pos (F := fun k => A (p k)) (tw := fun k => mm_tw (bd_o A g) (A (p k)) c) n).1
          have mx : mm_mx 0 (fun k => A (p k)) (fun k => mm_tw (bd_o A g) (A (p k)) c) n = if 0 < mm_tw (bd_o A g) (A (p k)) c then mm_tw (bd_o A g) (A (p k)) c else 0 := by
            split at m1
            · rw [if_pos (by assumption)]; omega
            · rw [if_neg (by assumption)]; omega
          refine ⟨.int (zI (mm_tw (bd_o A g) (A (p k)) c)), ?_⟩
          rw [if_neg (by decide), rq_is J, jx_cI_e x, rq_is J, jx_cI_e (m_185 J hk hc), jx_cI_e (m_246z _ _ (by omega) (by omega) h), jx_cI_e (m_246z _ _ (by omega) (by omega) h), nI_1]
          show _ = jx_E 193 6 [_, .int (zI (if (mm_bg n (fun k => A (p k)) (bd_o A g) c).2 < mm_mx 0 (fun k => A (p k)) (fun k => mm_tw (bd_o A g) (A (p k)) c) n then (((c : Nat) : Int), mm_mx 0 (fun k => A (p k)) (fun k => mm_tw (bd_o A g) (A (p k)) c) n) else _).1), .int (zI (if (mm_bg n (fun k => A (p k)) (bd_o A g) c).2 < mm_mx 0 (fun k => A (p k)) (fun k => mm_tw (bd_o A g) (A (p k)) c) n then (((c : Nat) : Int), mm_mx 0 (fun k => A (p k)) (fun k => mm_tw (bd_o A g) (A (p k)) c) n) else _).2), _, _] [] h
          rw [mx]
          by_cases w : (mm_bg n (fun k => A (p k)) (bd_o A g) c).2 < mm_tw (bd_o A g) (A (p k)) c
          · have w0 : 0 < mm_tw (bd_o A g) (A (p k)) c := by omega
            rw [if_neg (fun q => (by have := (zI_le (by omega) (by omega) (by omega) (by omega)).mp q; omega)), if_pos w0, if_pos w, if_pos w]
            show jx_E 193 6 [_, .int (nI c), _, _, _] [] h = jx_E 193 6 [_, .int (zI (c : Int)), _, _, _] [] h
            rw [zI_n]
          · rw [if_pos ((zI_le (by omega) (by omega) (by omega) (by omega)).mpr (by omega)), if_neg w]
            have w2 : ¬ (mm_bg n (fun k => A (p k)) (bd_o A g) c).2 < (if 0 < mm_tw (bd_o A g) (A (p k)) c then mm_tw (bd_o A g) (A (p k)) c else 0) := by split <;> omega
            rw [if_neg w2]
  · have al : ∀ k, k < n → fg_on (A (p k)) = true := fun k hk => by
      cases e : fg_on (A (p k)) with
      | true => rfl
      | false => exact absurd ⟨k, hk, e⟩ c0
    have z : ∀ c, mm_bg n (fun k => A (p k)) (bd_o A g) c = (-1, 0) := by
      intro c
      induction c with
      | zero => rfl
      | succ c ih =>
        unfold mm_bg
        rw [ih, if_neg]
        unfold mm_pt
        cases mm_gap (bd_o A g) c with
        | false => exact (by decide : ¬ (0 : Int) < 0)
        | true =>
          have : mm_mx 0 (fun k => A (p k)) (fun k => mm_tw (bd_o A g) (A (p k)) c) n ≤ 0 := mm_mx_le (Int.le_refl _) n (fun j hj hl => by rw [al j hj] at hl; cases hl)
          show ¬ (0 : Int) < mm_mx 0 (fun k => A (p k)) (fun k => mm_tw (bd_o A g) (A (p k)) c) n
          omega
    have m148 := m_148 J true
    have s0 : mz_su (fun k => (bif true then !fg_on (A (p k)) else true).toNat) n = 0 := by
      rw [mz_su_cong (g := fun _ => 0) (fun k hk => by show (!fg_on (A (p k))).toNat = 0; rw [al k hk]; rfl), mz_su_z]
    rw [s0] at m148
    rw [z, b_193_6, if_neg (by decide), rq_is J, jx_cI_e (show jx_A 148 [.ref y, .int 1] h = _ from m148), if_pos (by decide)]
    rfl
end RQ
end JX
