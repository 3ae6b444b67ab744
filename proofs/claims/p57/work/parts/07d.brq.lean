/-! The board: neighbours, gaps, meetings. -/
section JX
def bd_nb (g : Nat → Option Nat) (c s : Nat) : Option Nat := (mz_bs c s).bind g
def bd_o (A : Nat → fg_T) (g : Nat → Option Nat) : Nat → Option fg_T := fun c => (g c).map A
/-- what is at a side of a cell: 0 nothing, 1 an edge that fits, 2 one that does not -/
def mm_ct (o : Nat → Option fg_T) (c s : Nat) : Nat := match o c with
  | none => 0
  | some f => match (mz_bs c s).bind o with
    | none => 0
    | some f' => bif fg_fit f s f' then 1 else 2
def mm_nc (o : Nat → Option fg_T) (c : Nat) : Nat := mz_su (fun s => ((mz_bs c s).bind o).isSome.toNat) 4
def mm_gap (o : Nat → Option fg_T) (c : Nat) : Bool := (o c).isNone && Nat.blt 0 (mm_nc o c)
def mm_ms (o : Nat → Option fg_T) (kd c : Nat) : Nat := mz_su (fun s => (mm_ct o c s == kd).toNat) 4
def bd_kd (b : Bool) : Nat := bif b then 1 else 2
def bd_W (n : Nat) (p : Nat → Nat) (A : Nat → fg_T) (g : Nat → Option Nat) : Prop :=
  (∀ j k, j < 20 → k < 20 → p j = p k → j = k) ∧ (∀ c i, c < 64 → g c = some i → fg_ce (A i) = c + 1 ∧ ∃ k, k < n ∧ p k = i) ∧ (∀ k c, k < n → fg_ce (A (p k)) = c + 1 → g c = some (p k))
theorem mz_rsl {s : Nat} (hs : s < 4) : [Value.int (-1), .int 0, .int 1, .int 0][(nI s).toNatClampNeg]? = some (.int (mz_rs s)) := by
  rw [nI_clamp (by omega)]
  match s, hs with
  | 0, _ => rfl
  | 1, _ => rfl
  | 2, _ => rfl
  | 3, _ => rfl
theorem mz_csl {s : Nat} (hs : s < 4) : [Value.int 0, .int 1, .int 0, .int (-1)][(nI s).toNatClampNeg]? = some (.int (mz_cs s)) := by
  rw [nI_clamp (by omega)]
  match s, hs with
  | 0, _ => rfl
  | 1, _ => rfl
  | 2, _ => rfl
  | 3, _ => rfl
theorem bd_nb_o {A : Nat → fg_T} {g : Nat → Option Nat} {c s : Nat} : (mz_bs c s).bind (bd_o A g) = (bd_nb g c s).map A := by
  unfold bd_nb bd_o
  cases mz_bs c s <;> rfl
section BD
variable {xs : List Int32} {h : jx_H} {a n nx : Nat} {p : Nat → Nat} {A : Nat → fg_T} {g : Nat → Option Nat}
theorem m_13 (K : mz_K xs h) (H : bd_I h a n nx p A g) {c s : Nat} (hc : c < 64) (hs : s < 4) : jx_A 13 [.ref a, .int (nI c), .int (nI s)] h = some (.inl (some (bd_v a (bd_nb g c s))), h) := by
  have k1 : h.1 1 = some (100, [.int (-1), .int 0, .int 1, .int 0]) := K 1 (by decide)
  have k2 : h.1 2 = some (100, [.int 0, .int 1, .int 0, .int (-1)]) := K 2 (by decide)
  rw [a_13, jx_lI_e k1 (nI_pos' (by omega)) (mz_rsl hs), jx_lI_e k2 (nI_pos' (by omega)) (mz_csl hs)]
  have ck := mz_bsok c hc s hs
  unfold mz_bsck at ck
  cases e : mz_bs c s with
  | none =>
    rw [e] at ck
    simp only [Bool.or_eq_true, decide_eq_true_eq, Bool.not_eq_true', decide_eq_false_iff_not] at ck
    have e2 : bd_nb g c s = none := by unfold bd_nb; rw [e]; rfl
    rw [e2]
    by_cases c1 : nI c / 8 + mz_rs s < 0
    · rw [if_pos c1, b_13_45]; rfl
    · rw [if_neg c1]
      by_cases c2 : 7 < nI c / 8 + mz_rs s
      · rw [if_pos c2, b_13_45]; rfl
      · rw [if_neg c2]
        by_cases c3 : (nI c - nI c / 8 * 8) + mz_cs s < 0
        · rw [if_pos c3, b_13_45]; rfl
        · rw [if_neg c3]
          by_cases c4 : (nI c - nI c / 8 * 8) + mz_cs s ≤ 7
          · exact absurd ck (by simp [c1, c2, c3, c4])
          · rw [if_neg c4, b_13_45]; rfl
  | some c' =>
    rw [e] at ck
    simp only [Bool.and_eq_true, decide_eq_true_eq, Bool.not_eq_true', decide_eq_false_iff_not] at ck
    obtain ⟨⟨⟨⟨⟨c1, c2⟩, c3⟩, c4⟩, c5⟩, c6⟩ := ck
    have e2 : bd_nb g c s = g c' := by unfold bd_nb; rw [e]; rfl
    rw [if_neg c1, if_neg c2, if_neg c3, if_pos c4, bd_gr H, c5, bd_ce H c6, e2]
    cases g c' <;> rfl
theorem bd_nb20 (H : bd_I h a n nx p A g) {c s j : Nat} (hc : c < 64) (hs : s < 4) (e : bd_nb g c s = some j) : j < 20 := by
  unfold bd_nb at e
  cases e2 : mz_bs c s with
  | none => rw [e2] at e; cases e
  | some c' => rw [e2] at e; exact bd_g H (mz_bs64 hc hs e2) e
theorem m_14 (K : mz_K xs h) (H : bd_I h a n nx p A g) {c : Nat} (hc : c < 64) : jx_A 14 [.ref a, .int (nI c)] h = some (.inl (some (.int (nI (mm_nc (bd_o A g) c)))), h) := by
  rw [a_14]
  refine mz_lp (fun i => jx_E 14 4 [.ref a, .int (nI c), .int (nI (mz_su (fun s => ((mz_bs c s).bind (bd_o A g)).isSome.toNat) i)), .int (nI i)] [] h) 4 _ ?_ ?_ 0 (Nat.zero_le _)
  · show jx_E 14 4 _ _ _ = _
    rw [b_14_4, if_pos (by decide)]
    rfl
  · intro i hi
    show jx_E 14 4 _ _ _ = jx_E 14 4 [.ref a, .int (nI c), .int (nI (mz_su (fun s => ((mz_bs c s).bind (bd_o A g)).isSome.toNat) i + ((mz_bs c i).bind (bd_o A g)).isSome.toNat)), .int (nI (i + 1))] [] h
    rw [b_14_4, if_neg (show ¬ (4 : Int32) ≤ nI i from nI_ge hi (by decide)), bd_is H, bd_nb_o, nI_1, nI_1]
    have e := m_13 K H hc hi
    cases e2 : bd_nb g c i with
    | none => rw [jx_cN_n (by rw [e, e2]; rfl)]; rfl
    | some j => rw [jx_cN_e (x := bd_f a j) (by rw [e, e2]; rfl)]; rfl
theorem mm_nc_le (o : Nat → Option fg_T) (c : Nat) : mm_nc o c ≤ 4 := by
  unfold mm_nc
  have := mz_su_le (f := fun s => ((mz_bs c s).bind o).isSome.toNat) (b := 1) (n := 4) (fun i _ => Bool.toNat_le _)
  omega
theorem m_15 (K : mz_K xs h) (H : bd_I h a n nx p A g) {c : Nat} (hc : c < 64) : jx_A 15 [.ref a, .int (nI c)] h = some (.inl (some (.int (bI (mm_gap (bd_o A g) c)))), h) := by
  rw [a_15, bd_gr H, bd_ce H hc]
  unfold mm_gap bd_o
  cases e : g c with
  | some i => rfl
  | none =>
    show jx_is h a 0 _ = _
    have hl := mm_nc_le (bd_o A g) c
    rw [bd_is H, jx_cI_e (m_14 K H hc)]
    show (_ : jx_R) = some (.inl (some (.int (bI (Nat.blt 0 (mm_nc (bd_o A g) c))))), h)
    by_cases c1 : mm_nc (bd_o A g) c = 0
    · rw [c1, if_pos (by decide)]; rfl
    · rw [if_neg (nI_nle (by omega) (by omega)), show Nat.blt 0 (mm_nc (bd_o A g) c) = true from Nat.ble_eq_true_of_le (by omega)]; rfl
theorem m_16 (K : mz_K xs h) (H : bd_I h a n nx p A g) {c i s : Nat} (hc : c < 64) (hg : g c = some i) (hce : fg_ce (A i) = c + 1) (hs : s < 4) (b : Bool) : jx_A 16 [.ref a, .ref (bd_f a i), .int (nI s), .int (bI b)] h = some (.inl (some (.int (bI (mm_ct (bd_o A g) c s == bd_kd b)))), h) := by
  have hi := bd_g H hc hg
  have ho : bd_o A g c = some (A i) := by unfold bd_o; rw [hg]; rfl
  rw [a_16, bd_fce H hi, hce, mz_pred, bd_is H]
  unfold mm_ct
  rw [ho, bd_nb_o]
  have e := m_13 K H hc hs
  cases e2 : bd_nb g c s with
  | none =>
    rw [jx_cN_n (by rw [e, e2]; rfl)]
    cases b <;> rfl
  | some j =>
    have hj := bd_nb20 H hc hs e2
    rw [jx_cN_e (x := bd_f a j) (by rw [e, e2]; rfl), bd_fis H hi, jx_cI_e (m_22 H hi hs), jx_cI_e (m_128 hs h), bd_fis H hj, jx_cI_e (m_22 H hj (by omega)), mz_15 _ (fg_at_lt (bd_ok H hj) _)]
    have l1 := fg_at_lt (bd_ok H hi) s
    have l2 := fg_at_lt (bd_ok H hj) ((s + 2) % 4)
    show (_ : jx_R) = some (.inl (some (.int (bI ((bif fg_fit (A i) s (A j) then 1 else 2) == bd_kd b)))), h)
    by_cases q : fg_at (A i) s + fg_at (A j) ((s + 2) % 4) = 15
    · rw [if_pos ((nI_eq (by omega) (by omega)).mpr (by omega)), show fg_fit (A i) s (A j) = true from beq_iff_eq.mpr q]
      cases b <;> rfl
    · rw [if_neg (fun z => q (by have := (nI_eq (by omega) (by omega)).mp z; omega)), show fg_fit (A i) s (A j) = false from beq_eq_false_iff_ne.mpr q]
      cases b <;> rfl
theorem m_17 (K : mz_K xs h) (H : bd_I h a n nx p A g) {c i : Nat} (hc : c < 64) (hg : g c = some i) (hce : fg_ce (A i) = c + 1) (b : Bool) : jx_A 17 [.ref a, .ref (bd_f a i), .int (bI b)] h = some (.inl (some (.int (nI (mm_ms (bd_o A g) (bd_kd b) c)))), h) := by
  rw [a_17]
  refine mz_lp (fun k => jx_E 17 5 [.ref a, .ref (bd_f a i), .int (bI b), .int (nI (mz_su (fun s => (mm_ct (bd_o A g) c s == bd_kd b).toNat) k)), .int (nI k)] [] h) 4 _ ?_ ?_ 0 (Nat.zero_le _)
  · show jx_E 17 5 _ _ _ = _
    rw [b_17_5, if_pos (by decide)]
    rfl
  · intro k hk
    show jx_E 17 5 _ _ _ = jx_E 17 5 [.ref a, .ref (bd_f a i), .int (bI b), .int (nI (mz_su (fun s => (mm_ct (bd_o A g) c s == bd_kd b).toNat) k + (mm_ct (bd_o A g) c k == bd_kd b).toNat)), .int (nI (k + 1))] [] h
    rw [b_17_5, if_neg (show ¬ (4 : Int32) ≤ nI k from nI_ge hk (by decide)), bd_is H, jx_cI_e (m_16 K H hc hg hce hk b), nI_1, nI_1]
    cases mm_ct (bd_o A g) c k == bd_kd b with
    | true => rw [if_neg (by decide)]; rfl
    | false => rw [if_pos (by decide)]; rfl
/-- the joins (or clashes) of a fragment at its eastern and southern side -/
def mm_es (o : Nat → Option fg_T) (kd : Nat) (f : fg_T) : Nat := match fg_ce f with
  | 0 => 0
  | c + 1 => (mm_ct o c 1 == kd).toNat + (mm_ct o c 2 == kd).toNat
theorem m_18 (K : mz_K xs h) (H : bd_I h a n nx p A g) (HW : bd_W n p A g) (b : Bool) : jx_A 18 [.ref a, .int (bI b)] h = some (.inl (some (.int (nI (mz_su (fun k => mm_es (bd_o A g) (bd_kd b) (A (p k))) n)))), h) := by
  rw [a_18]
  have hn := bd_n20 H
  refine mz_lpj (fun k (v : Value) => jx_E 18 4 [.ref a, .int (bI b), .int (nI (mz_su (fun k => mm_es (bd_o A g) (bd_kd b) (A (p k))) k)), .int (nI k), v] [] h) n _ ?_ ?_ 0 jx_j (Nat.zero_le _)
  · intro v
    show jx_E 18 4 _ _ _ = _
    rw [b_18_4, bd_n H, if_pos (nI_le (Nat.le_refl _) (by omega))]
  · intro k v hk
    refine ⟨.ref (bd_f a (p k)), ?_⟩
    show jx_E 18 4 _ _ _ = jx_E 18 4 [.ref a, .int (bI b), .int (nI (mz_su (fun k => mm_es (bd_o A g) (bd_kd b) (A (p k))) k + mm_es (bd_o A g) (bd_kd b) (A (p k)))), .int (nI (k + 1)), .ref (bd_f a (p k))] [] h
    have hp := bd_p H hk
    rw [b_18_4, bd_n H, if_neg (nI_ge hk (by omega)), bd_fr H, bd_at H (by omega), bd_fis H hp, jx_cI_e (m_21 H hp)]
    cases ec : fg_ce (A (p k)) with
    | zero =>
      have e1 : fg_on (A (p k)) = false := by unfold fg_on; rw [ec]; rfl
      have e2 : mm_es (bd_o A g) (bd_kd b) (A (p k)) = 0 := by unfold mm_es; rw [ec]
      rw [e1, e2, if_pos (by decide), nI_1]
      rfl
    | succ c =>
      have e1 : fg_on (A (p k)) = true := by unfold fg_on; rw [ec]; rfl
      have e2 : mm_es (bd_o A g) (bd_kd b) (A (p k)) = (mm_ct (bd_o A g) c 1 == bd_kd b).toNat + (mm_ct (bd_o A g) c 2 == bd_kd b).toNat := by unfold mm_es; rw [ec]
      have hc : c < 64 := by have := (bd_ok H hp).2.2.2.2; omega
      have hg := HW.2.2 k c hk ec
      have q1 := m_16 K H hc hg ec (s := 1) (by decide) b
      have q2 := m_16 K H hc hg ec (s := 2) (by decide) b
      rw [e1, e2, if_neg (by decide), bd_is H, jx_cI_e (show jx_A 16 [.ref a, .ref (bd_f a (p k)), .int 1, .int (bI b)] h = _ from q1)]
      simp only [bd_is H, jx_cI_e (show jx_A 16 [.ref a, .ref (bd_f a (p k)), .int 2, .int (bI b)] h = _ from q2), nI_1]
      cases mm_ct (bd_o A g) c 1 == bd_kd b <;> cases mm_ct (bd_o A g) c 2 == bd_kd b <;> rfl
end BD
end JX
