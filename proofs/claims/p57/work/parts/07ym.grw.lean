/-! grown: a mask grows to its group. -/
section JX
theorem sh_e : ∀ k, k < 64 → (UInt64.toBitVec (UInt64.mod ((nI k).toInt64.toUInt64 &&& Int64.toUInt64 63) 64)).toNat = k := by decide +kernel
theorem mb_sh (x : Int64) {k : Nat} (hk : k < 64) (c : Nat) : mb ((x.toUInt64 >>> ((nI k).toInt64.toUInt64 &&& Int64.toUInt64 63)).toInt64) c = mb x (k + c) := by
  show (x.toBitVec >>> (UInt64.toBitVec (UInt64.mod ((nI k).toInt64.toUInt64 &&& Int64.toUInt64 63) 64)).toNat).getLsbD c = x.toBitVec.getLsbD (k + c)
  rw [sh_e k hk, BitVec.getLsbD_ushiftRight]
theorem mb_1 (c : Nat) : mb 1 c = decide (c = 0) := by
  rw [show (1 : Int64) = mz_bit 0 by decide, mb_bit (by decide)]
theorem bt_e (x : Int64) {k : Nat} (hk : k < 64) : ((x.toUInt64 >>> ((nI k).toInt64.toUInt64 &&& Int64.toUInt64 63)).toInt64) &&& 1 = bif mb x k then 1 else 0 := by
  refine mb_ext (fun c hc => ?_)
  rw [mb_and, mb_sh x hk, mb_1]
  by_cases z : c = 0
  · subst z
    rw [decide_eq_true rfl, Bool.and_true, Nat.add_zero]
    cases mb x k with
    | true => exact (show mb 1 0 = true by rw [mb_1]; rfl).symm
    | false => exact (mb_0 0).symm
  · rw [decide_eq_false z, Bool.and_false]
    cases mb x k with
    | true => exact (show mb 1 c = false by rw [mb_1, decide_eq_false z]).symm
    | false => exact (mb_0 c).symm
theorem bt_1 {α : Type} (x : Int64) {k : Nat} (hk : k < 64) (a b : α) : (if lg_cmp (((x.toUInt64 >>> ((nI k).toInt64.toUInt64 &&& Int64.toUInt64 63)).toInt64) &&& 1) 1 = 0 then a else b) = bif mb x k then a else b := by
  rw [bt_e x hk]
  cases mb x k with
  | true => exact if_pos (lg_0.mpr rfl)
  | false => exact if_neg (by decide)
theorem bt_0 {α : Type} (x : Int64) {k : Nat} (hk : k < 64) (a b : α) : (if lg_cmp (((x.toUInt64 >>> ((nI k).toInt64.toUInt64 &&& Int64.toUInt64 63)).toInt64) &&& 1) 0 = 0 then a else b) = bif mb x k then b else a := by
  rw [bt_e x hk]
  cases mb x k with
  | true => exact if_neg (by decide)
  | false => exact if_pos (lg_0.mpr rfl)
/-- the mask of a neighbour, as the law writes it -/
def gw_w (k s : Nat) : Int64 := match s with
  | 0 => 1 <<< ((nI k - 8).toInt64 &&& 63)
  | 1 => 1 <<< ((nI k + 1).toInt64 &&& 63)
  | 2 => 1 <<< ((nI k + 8).toInt64 &&& 63)
  | _ => 1 <<< ((nI k - 1).toInt64 &&& 63)
theorem gw_wk : ∀ k, k < 64 → ∀ s, s < 4 → (match mz_bs k s with | some d => decide (gw_w k s = mz_bit d) | none => true) = true := by decide +kernel
theorem gw_wd {k s d : Nat} (hk : k < 64) (hs : s < 4) (e : mz_bs k s = some d) : gw_w k s = mz_bit d := by
  have := gw_wk k hk s hs
  rw [e] at this
  exact of_decide_eq_true this
section GW
variable {o : Nat → Option fg_T} {s0 : Nat}
/-- a mask between its first cell and its group -/
def gw_P (o : Nat → Option fg_T) (s0 : Nat) (m : Int64) : Prop := mb m s0 = true ∧ ∀ c, c < 64 → mb m c = true → mm_re o s0 c
/-- t has what m has, and the joins of the first cells of m, of cell i at the first sides -/
def gw_T (o : Nat → Option fg_T) (s0 : Nat) (m t : Int64) (i j : Nat) : Prop := gw_P o s0 t ∧ (∀ c, c < 64 → mb m c = true → mb t c = true) ∧
  (∀ k s d, k < i → s < 4 → mb m k = true → mm_ct o k s = 1 → mz_bs k s = some d → mb t d = true) ∧ ∀ s d, s < j → mm_ct o i s = 1 → mz_bs i s = some d → mb t d = true
theorem gw_0 {m : Int64} (P : gw_P o s0 m) : gw_T o s0 m m 0 0 := ⟨P, fun _ _ h => h, fun k s d h => absurd h (Nat.not_lt_zero _), fun s d h => absurd h (Nat.not_lt_zero _)⟩
theorem gw_no {m t : Int64} {i : Nat} (T : gw_T o s0 m t i 0) (e : mb m i = false) : gw_T o s0 m t (i + 1) 0 :=
  ⟨T.1, T.2.1, fun k s d hk hs hm hc hb => by
    by_cases z : k = i
    · subst z; rw [e] at hm; cases hm
    · exact T.2.2.1 k s d (by omega) hs hm hc hb, fun s d h => absurd h (Nat.not_lt_zero _)⟩
theorem gw_4 {m t : Int64} {i : Nat} (T : gw_T o s0 m t i 4) : gw_T o s0 m t (i + 1) 0 :=
  ⟨T.1, T.2.1, fun k s d hk hs hm hc hb => by
    by_cases z : k = i
    · subst z; exact T.2.2.2 s d hs hc hb
    · exact T.2.2.1 k s d (by omega) hs hm hc hb, fun s d h => absurd h (Nat.not_lt_zero _)⟩
theorem gw_s {m t : Int64} {i j : Nat} (hi : i < 64) (hj : j < 4) (T : gw_T o s0 m t i j) (e : mb m i = true) : gw_T o s0 m (t ||| (bif mm_ct o i j == 1 then gw_w i j else 0)) i (j + 1) := by
  obtain ⟨P, h1, h2, h3⟩ := T
  cases z : mm_ct o i j == 1 with
  | false =>
    rw [cond_false, Int64_or0]
    refine ⟨P, h1, h2, fun s d hs hc hb => ?_⟩
    by_cases y : s = j
    · subst y; rw [hc] at z; cases z
    · exact h3 s d (by omega) hc hb
  | true =>
    have z : mm_ct o i j = 1 := beq_iff_eq.mp z
    obtain ⟨f, d0, f', -, hb0, -⟩ := mm_ct_nb (o := o) (c := i) (s := j) (by rw [z]; decide)
    have d64 := mz_bs64 hi hj hb0
    rw [cond_true, gw_wd hi hj hb0]
    have up : ∀ c, mb t c = true → mb (t ||| mz_bit d0) c = true := fun c h => by rw [mb_or, h]; rfl
    refine ⟨⟨up _ P.1, fun c hc h => ?_⟩, fun c hc h => up c (h1 c hc h), fun k s d a b c' d' e' => up d (h2 k s d a b c' d' e'), fun s d hs hc hb => ?_⟩
    · rw [mb_or, mb_bit d64, Bool.or_eq_true, decide_eq_true_eq] at h
      rcases h with h | h
      · exact P.2 c hc h
      · subst h
        exact mm_re_s (P.2 i hi (h1 i hi e)) hi hj z hb0
    · by_cases y : s = j
      · subst y
        rw [hb0] at hb
        cases hb
        rw [mb_or, mb_bit d64, decide_eq_true rfl, Bool.or_true]
      · exact up d (h3 s d (by omega) hc hb)
end GW
end JX
