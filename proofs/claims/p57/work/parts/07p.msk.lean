/-! Masks of the grid. -/
section JX
def mb (m : Int64) (c : Nat) : Bool := m.toBitVec.getLsbD c
theorem mb_ext {m m' : Int64} (h : ∀ c, c < 64 → mb m c = mb m' c) : m = m' := Int64.toBitVec_inj.mp (BitVec.eq_of_getLsbD_eq (fun i hi => h i hi))
theorem mb_or (a b : Int64) (c : Nat) : mb (a ||| b) c = (mb a c || mb b c) := by unfold mb; rw [Int64.toBitVec_or, BitVec.getLsbD_or]
theorem mb_and (a b : Int64) (c : Nat) : mb (a &&& b) c = (mb a c && mb b c) := by unfold mb; rw [Int64.toBitVec_and, BitVec.getLsbD_and]
theorem mb_xor (a b : Int64) (c : Nat) : mb (a ^^^ b) c = (mb a c ^^ mb b c) := by unfold mb; rw [Int64.toBitVec_xor, BitVec.getLsbD_xor]
theorem mb_0 (c : Nat) : mb 0 c = false := by
  show (0#64).getLsbD c = false
  simp
def mz_bit (k : Nat) : Int64 := 1 <<< ((nI k).toInt64 &&& 63)
theorem mz_bit_p : ∀ k, k < 64 → (mz_bit k).toBitVec = BitVec.twoPow 64 k := by decide +kernel
theorem mb_bit {k : Nat} (hk : k < 64) (c : Nat) : mb (mz_bit k) c = decide (c = k) := by
  unfold mb
  rw [mz_bit_p k hk, BitVec.getLsbD_twoPow, decide_eq_true hk, Bool.true_and]
  by_cases e : k = c
  · rw [decide_eq_true e, decide_eq_true e.symm]
  · rw [decide_eq_false e, decide_eq_false (fun z => e z.symm)]
theorem m_129 (k : Nat) (h : jx_H) : jx_A 129 [.int (nI k)] h = some (.inl (some (.long (mz_bit k))), h) := a_129 (nI k) h
theorem lg_0 {x y : Int64} : lg_cmp x y = 0 ↔ x = y := by
  unfold lg_cmp
  constructor
  · intro h
    split at h
    · exact absurd h (by decide)
    · split at h
      · assumption
      · exact absurd h (by decide)
  · intro h
    subst h
    rw [if_neg (by rw [gt_iff_lt, Int64.lt_iff_toInt_lt]; exact Int.lt_irrefl _), if_pos rfl]
/-- whether a cell isn't in a mask, as the code asks it -/
theorem lg_bit {m : Int64} {k : Nat} (hk : k < 64) : lg_cmp (m &&& mz_bit k) 0 = 0 ↔ mb m k = false := by
  rw [lg_0]
  constructor
  · intro h
    have := congrArg (fun z => mb z k) h
    simp only [mb_and, mb_bit hk, mb_0] at this
    simpa using this
  · intro h
    refine mb_ext (fun c hc => ?_)
    rw [mb_and, mb_bit hk, mb_0]
    by_cases e : c = k
    · subst e; rw [h]; rfl
    · rw [decide_eq_false e, Bool.and_false]
def mz_mkr (P : Nat → Bool) : Nat → Int64 | 0 => 0 | n + 1 => bif P n then mz_mkr P n ||| mz_bit n else mz_mkr P n
def mz_mk (P : Nat → Bool) : Int64 := mz_mkr P 64
theorem mb_mkr (P : Nat → Bool) (c : Nat) : ∀ n, n ≤ 64 → mb (mz_mkr P n) c = (decide (c < n) && P c)
  | 0, _ => by rw [show decide (c < 0) = false from decide_eq_false (Nat.not_lt_zero c)]; exact mb_0 c
  | n + 1, hn => by
    have ih := mb_mkr P c n (by omega)
    show mb (bif P n then mz_mkr P n ||| mz_bit n else mz_mkr P n) c = _
    cases e : P n with
    | true =>
      rw [cond_true, mb_or, ih, mb_bit (by omega)]
      by_cases z : c = n
      · subst z; rw [e]; simp
      · rw [decide_eq_false z, Bool.or_false]
        by_cases y : c < n
        · rw [decide_eq_true y, decide_eq_true (show c < n + 1 by omega)]
        · rw [decide_eq_false y, decide_eq_false (show ¬ c < n + 1 by omega)]
    | false =>
      rw [cond_false, ih]
      by_cases z : c = n
      · subst z; rw [e]; simp
      · by_cases y : c < n
        · rw [decide_eq_true y, decide_eq_true (show c < n + 1 by omega)]
        · rw [decide_eq_false y, decide_eq_false (show ¬ c < n + 1 by omega)]
theorem mb_mk (P : Nat → Bool) {c : Nat} (hc : c < 64) : mb (mz_mk P) c = P c := by
  unfold mz_mk
  rw [mb_mkr P c 64 (Nat.le_refl _), decide_eq_true hc, Bool.true_and]
theorem mz_mk_of {m : Int64} {P : Nat → Bool} (h : ∀ c, c < 64 → mb m c = P c) : m = mz_mk P := mb_ext (fun c hc => by rw [mb_mk P hc]; exact h c hc)
theorem mz_mk_cong {P Q : Nat → Bool} (h : ∀ c, c < 64 → P c = Q c) : mz_mk P = mz_mk Q := mz_mk_of (fun c hc => by rw [mb_mk P hc]; exact h c hc)
-- the class's masks
def mm_pm (M : mm_T) : Int64 := mz_mk (fun c => (M.2.2.2 c).isSome)
def mm_gm (M : mm_T) : Int64 := mz_mk (mm_gap M.2.2.2)
def mm_cm (M : mm_T) (v : Nat) : Int64 := mz_mk (fun c => match M.2.2.2 c with | some f => fg_co f == v | none => false)
section CL
variable {xs : List Int32} {h : jx_H} {C : cl_T}
theorem c_80 (I : cl_I h C) : jx_A 80 [.ref 200] h = some (.inl (some (.long (mm_pm C.1))), h) := by
  obtain ⟨nx, J⟩ := I
  obtain ⟨p, A, g, H, W, hF, ho⟩ := J.2.1
  rw [a_80]
  refine mz_lp (fun k => jx_E 80 4 [.ref 200, .long (mz_mkr (fun c => (C.1.2.2.2 c).isSome) k), jx_j, .int (nI k)] [] h) 64 _ ?_ ?_ 0 (Nat.zero_le _)
  · show jx_E 80 4 _ _ _ = _
    rw [b_80_4, if_pos (by decide)]
    rfl
  · intro k hk
    show jx_E 80 4 _ _ _ = jx_E 80 4 [.ref 200, .long (bif (C.1.2.2.2 k).isSome then mz_mkr (fun c => (C.1.2.2.2 c).isSome) k ||| mz_bit k else mz_mkr (fun c => (C.1.2.2.2 c).isSome) k), jx_j, .int (nI (k + 1))] [] h
    rw [b_80_4, if_neg (show ¬ (64 : Int32) ≤ nI k from nI_ge hk (by decide)), cl_0 J, bd_gr H, bd_ce H hk, jx_cL_e (m_129 k h), nI_1, ← ho k hk]
    unfold bd_o
    cases g k <;> rfl
theorem c_81 (I : cl_I h C) (v : Int32) : (∃ v' : Nat, 97 ≤ v' ∧ v' ≤ 102 ∧ v = nI v' ∧ jx_A 81 [.ref 200, .int v] h = some (.inl (some (.long (mm_cm C.1 v'))), h)) ∨ ((∀ j : Nat, 97 ≤ j → j ≤ 102 → v ≠ nI j) ∧ jx_A 81 [.ref 200, .int v] h = some (.inr eIA, jx_thr h)) := by
  obtain ⟨nx, J⟩ := I
  obtain ⟨p, A, g, H, W, hF, ho⟩ := J.2.1
  rcases m_127r v h with ⟨v', h1, h2, rfl, e⟩ | ⟨h1, e⟩
  · refine Or.inl ⟨v', h1, h2, rfl, ?_⟩
    rw [a_81, jx_cI_e e, if_neg (by decide)]
    refine mz_lpj (fun k (z : Value) => jx_E 81 22 [.ref 200, .int (nI v'), .long (mz_mkr (fun c => match C.1.2.2.2 c with | some f => fg_co f == v' | none => false) k), jx_j, .int (nI k), z] [] h) 64 _ ?_ ?_ 0 jx_j (Nat.zero_le _)
    · intro z
      show jx_E 81 22 _ _ _ = _
      rw [b_81_22, if_pos (by decide)]
      rfl
    · intro k z hk
      have E : ∃ z', jx_E 81 22 [.ref 200, .int (nI v'), .long (mz_mkr (fun c => match C.1.2.2.2 c with | some f => fg_co f == v' | none => false) k), jx_j, .int (nI k), z] [] h = jx_E 81 22 [.ref 200, .int (nI v'), .long (bif (match C.1.2.2.2 k with | some f => fg_co f == v' | none => false) then mz_mkr (fun c => match C.1.2.2.2 c with | some f => fg_co f == v' | none => false) k ||| mz_bit k else mz_mkr (fun c => match C.1.2.2.2 c with | some f => fg_co f == v' | none => false) k), jx_j, .int (nI (k + 1)), z'] [] h := by
        rw [b_81_22, if_neg (show ¬ (64 : Int32) ≤ nI k from nI_ge hk (by decide)), cl_0 J, bd_gr H, bd_ce H hk, nI_1, ← ho k hk]
        unfold bd_o
        cases eg : g k with
        | none => exact ⟨.null, rfl⟩
        | some i =>
          have hi := bd_g H hk eg
          have ok := bd_ok H hi
          refine ⟨.ref (bd_f 201 i), ?_⟩
          show jx_gI h (bd_f 201 i) 2 1 _ = jx_E 81 22 [.ref 200, .int (nI v'), .long (bif fg_co (A i) == v' then mz_mkr (fun c => match C.1.2.2.2 c with | some f => fg_co f == v' | none => false) k ||| mz_bit k else mz_mkr (fun c => match C.1.2.2.2 c with | some f => fg_co f == v' | none => false) k), jx_j, .int (nI (k + 1)), .ref (bd_f 201 i)] [] h
          rw [bd_fco H hi]
          by_cases c : fg_co (A i) = v'
          · rw [if_pos (by rw [c]), jx_cL_e (m_129 k h), show (fg_co (A i) == v') = true from beq_iff_eq.mpr c]; rfl
          · rw [if_neg (fun q => c ((nI_eq (by have := ok.2.1; omega) (by omega)).mp q)), show (fg_co (A i) == v') = false from beq_eq_false_iff_ne.mpr c]; rfl
      exact E
  · exact Or.inr ⟨h1, by rw [a_81, jx_cI_e e, if_pos rfl]⟩
theorem c_82 (K : mz_K xs h) (I : cl_I h C) : jx_A 82 [.ref 200] h = some (.inl (some (.long (mm_gm C.1))), h) := by
  obtain ⟨nx, J⟩ := I
  obtain ⟨p, A, g, H, W, hF, ho⟩ := J.2.1
  rw [a_82]
  refine mz_lp (fun k => jx_E 82 4 [.ref 200, .long (mz_mkr (mm_gap C.1.2.2.2) k), jx_j, .int (nI k)] [] h) 64 _ ?_ ?_ 0 (Nat.zero_le _)
  · show jx_E 82 4 _ _ _ = _
    rw [b_82_4, if_pos (by decide)]
    rfl
  · intro k hk
    show jx_E 82 4 _ _ _ = jx_E 82 4 [.ref 200, .long (bif mm_gap C.1.2.2.2 k then mz_mkr (mm_gap C.1.2.2.2) k ||| mz_bit k else mz_mkr (mm_gap C.1.2.2.2) k), jx_j, .int (nI (k + 1))] [] h
    have e := m_15 K H hk
    rw [mm_gap_cong ho hk] at e
    rw [b_82_4, if_neg (show ¬ (64 : Int32) ≤ nI k from nI_ge hk (by decide)), cl_0 J, bd_is H, jx_cI_e e, jx_cL_e (m_129 k h), nI_1]
    cases mm_gap C.1.2.2.2 k <;> rfl
end CL
theorem mb_lo (y : Int64) (c : Nat) : mb (y <<< ((8 : Int32).toInt64 &&& 63)) c = (decide (c < 64) && !decide (c < 8) && mb y (c - 8)) := BitVec.getLsbD_shiftLeft y.toBitVec 8
theorem mb_l1 (y : Int64) (c : Nat) : mb (y <<< ((1 : Int32).toInt64 &&& 63)) c = (decide (c < 64) && !decide (c < 1) && mb y (c - 1)) := BitVec.getLsbD_shiftLeft y.toBitVec 1
theorem mb_r8 (y : Int64) (c : Nat) : mb ((y.toUInt64 >>> ((8 : Int32).toInt64.toUInt64 &&& Int64.toUInt64 63)).toInt64) c = mb y (8 + c) := BitVec.getLsbD_ushiftRight y.toBitVec 8 c
theorem mb_r1 (y : Int64) (c : Nat) : mb ((y.toUInt64 >>> ((1 : Int32).toInt64.toUInt64 &&& Int64.toUInt64 63)).toInt64) c = mb y (1 + c) := BitVec.getLsbD_ushiftRight y.toBitVec 1 c
theorem mb_c1 : ∀ c, c < 64 → mb 9187201950435737471 c = !(c % 8 == 7) := by decide +kernel
theorem mb_c2 : ∀ c, c < 64 → mb (-72340172838076674) c = !(c % 8 == 0) := by decide +kernel
theorem mb_m1 : ∀ c, c < 64 → mb (-1) c = true := by decide +kernel
theorem mb_hi (y : Int64) {c : Nat} (hc : 64 ≤ c) : mb y c = false := BitVec.getLsbD_of_ge y.toBitVec c hc
theorem mm_nc_pos (o : Nat → Option fg_T) (c : Nat) : Nat.blt 0 (mm_nc o c) = (((mz_bs c 0).bind o).isSome || ((mz_bs c 1).bind o).isSome || ((mz_bs c 2).bind o).isSome || ((mz_bs c 3).bind o).isSome) := by
  show Nat.blt 0 (0 + ((mz_bs c 0).bind o).isSome.toNat + ((mz_bs c 1).bind o).isSome.toNat + ((mz_bs c 2).bind o).isSome.toNat + ((mz_bs c 3).bind o).isSome.toNat) = _
  cases ((mz_bs c 0).bind o).isSome <;> cases ((mz_bs c 1).bind o).isSome <;> cases ((mz_bs c 2).bind o).isSome <;> cases ((mz_bs c 3).bind o).isSome <;> rfl
theorem mm_shifts (M : mm_T) (y : Int64) (hy : y = mm_pm M) : ((((y <<< ((8 : Int32).toInt64 &&& 63)) ||| ((y.toUInt64 >>> ((8 : Int32).toInt64.toUInt64 &&& Int64.toUInt64 63)).toInt64)) ||| (((y &&& 9187201950435737471) <<< ((1 : Int32).toInt64 &&& 63)) ||| (((y &&& (-72340172838076674)).toUInt64 >>> ((1 : Int32).toInt64.toUInt64 &&& Int64.toUInt64 63)).toInt64))) &&& (y ^^^ (-1))) = mm_gm M := by
  refine mz_mk_of (fun c hc => ?_)
  have P : ∀ d, d < 64 → mb y d = (M.2.2.2 d).isSome := fun d hd => by rw [hy]; exact mb_mk _ hd
  have s0 : ((mz_bs c 0).bind M.2.2.2).isSome = (decide (c < 64) && !decide (c < 8) && mb y (c - 8)) := by
    show ((bif Nat.ble 8 c then some (c - 8) else none).bind M.2.2.2).isSome = _
    by_cases z : 8 ≤ c
    · rw [Nat.ble_eq_true_of_le z, decide_eq_true hc, decide_eq_false (show ¬ c < 8 by omega), P (c - 8) (by omega)]; rfl
    · rw [show Nat.ble 8 c = false from by cases e : Nat.ble 8 c with | false => rfl | true => exact absurd (Nat.le_of_ble_eq_true e) z, decide_eq_true (show c < 8 by omega), decide_eq_true hc]; rfl
  have s2 : ((mz_bs c 2).bind M.2.2.2).isSome = mb y (8 + c) := by
    show ((bif Nat.blt c 56 then some (c + 8) else none).bind M.2.2.2).isSome = _
    by_cases z : c < 56
    · rw [show Nat.blt c 56 = true from Nat.ble_eq_true_of_le z, P (8 + c) (by omega), Nat.add_comm 8 c]; rfl
    · rw [show Nat.blt c 56 = false from by cases e : Nat.blt c 56 with | false => rfl | true => exact absurd (Nat.le_of_ble_eq_true e) z, mb_hi y (by omega)]; rfl
  have s3 : ((mz_bs c 3).bind M.2.2.2).isSome = (decide (c < 64) && !decide (c < 1) && (mb y (c - 1) && mb 9187201950435737471 (c - 1))) := by
    show ((bif Nat.blt 0 (c % 8) then some (c - 1) else none).bind M.2.2.2).isSome = _
    rw [mb_c1 (c - 1) (by omega), P (c - 1) (by omega)]
    by_cases z : 0 < c % 8
    · rw [show Nat.blt 0 (c % 8) = true from Nat.ble_eq_true_of_le z, decide_eq_true hc, decide_eq_false (show ¬ c < 1 by omega), show ((c - 1) % 8 == 7) = false from beq_eq_false_iff_ne.mpr (by omega)]
      show (M.2.2.2 (c - 1)).isSome = (true && true && ((M.2.2.2 (c - 1)).isSome && true))
      simp
    · rw [show Nat.blt 0 (c % 8) = false from by cases e : Nat.blt 0 (c % 8) with | false => rfl | true => exact absurd (Nat.le_of_ble_eq_true e) z]
      by_cases y1 : c < 1
      · rw [decide_eq_true y1, decide_eq_true hc]; rfl
      · rw [show ((c - 1) % 8 == 7) = true from beq_iff_eq.mpr (by omega)]
        cases (M.2.2.2 (c - 1)).isSome <;> simp
  have s1 : ((mz_bs c 1).bind M.2.2.2).isSome = (mb y (1 + c) && mb (-72340172838076674) (1 + c)) := by
    show ((bif Nat.blt (c % 8) 7 then some (c + 1) else none).bind M.2.2.2).isSome = _
    by_cases z : c % 8 < 7
    · rw [show Nat.blt (c % 8) 7 = true from Nat.ble_eq_true_of_le z, P (1 + c) (by omega), mb_c2 (1 + c) (by omega), show ((1 + c) % 8 == 0) = false from beq_eq_false_iff_ne.mpr (by omega), Nat.add_comm 1 c]
      show (M.2.2.2 (c + 1)).isSome = ((M.2.2.2 (c + 1)).isSome && true)
      rw [Bool.and_true]
    · rw [show Nat.blt (c % 8) 7 = false from by cases e : Nat.blt (c % 8) 7 with | false => rfl | true => exact absurd (Nat.le_of_ble_eq_true e) z]
      by_cases y1 : 1 + c < 64
      · rw [mb_c2 (1 + c) y1, show ((1 + c) % 8 == 0) = true from beq_iff_eq.mpr (by omega)]
        cases mb y (1 + c) <;> rfl
      · rw [mb_hi y (by omega)]; rfl
  rw [mb_and, mb_or, mb_or, mb_or, mb_xor, mb_lo, mb_l1, mb_r8, mb_r1, mb_and, mb_and, mb_m1 c hc, P c hc, ← s0, ← s1, ← s2, ← s3]
  unfold mm_gap
  rw [mm_nc_pos]
  cases M.2.2.2 c <;> cases ((mz_bs c 0).bind M.2.2.2).isSome <;> cases ((mz_bs c 1).bind M.2.2.2).isSome <;> cases ((mz_bs c 2).bind M.2.2.2).isSome <;> cases ((mz_bs c 3).bind M.2.2.2).isSome <;> rfl
theorem c_83 {h : jx_H} {C : cl_T} (I : cl_I h C) : jx_A 83 [.ref 200] h = some (.inl (some (.long (mm_gm C.1))), h) := by
  have I0 := I
  obtain ⟨nx, J⟩ := I
  rw [a_83, cl_is J, jx_cL_e (c_80 I0), mm_shifts C.1 (mm_pm C.1) rfl]
end JX
