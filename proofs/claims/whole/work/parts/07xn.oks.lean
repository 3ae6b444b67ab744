/-! Ids go up, whatever is changed. -/
section JX
theorem mm_ok_id {M M' : mm_T} (O : mm_ok M) (h1 : M'.1 = M.1) (h2 : M'.2.1 = M.2.1) (e : ∀ j, fg_id (M'.2.2.1 j) = fg_id (M.2.2.1 j)) : mm_ok M' :=
  ⟨fun i j a b => by rw [e, e]; exact O.1 i j a (by omega), fun j hj => by rw [e, h2]; exact O.2 j (by omega)⟩
theorem mm_up_id {F : Nat → fg_T} {k : Nat} {f : fg_T} (e : fg_id f = fg_id (F k)) (j : Nat) : fg_id (mz_up F k f j) = fg_id (F j) := by
  by_cases z : j = k
  · subst z; rw [mz_up_s, e]
  · rw [mz_up_n z]
theorem mm_ok_Z : mm_ok mm_0 := ⟨fun _ _ _ h => absurd h (Nat.not_lt_zero _), fun _ h => absurd h (Nat.not_lt_zero _)⟩
theorem mm_ok_add {M M' : mm_T} {c n e s w r : Int32} (O : mm_ok M) (h : ok_add M c n e s w r M') : mm_ok M' := by
  obtain ⟨c', n', e', s', w', -, -, -, -, -, -, -, rfl⟩ := h
  refine ⟨fun i j a b => ?_, fun j b => ?_⟩
  · have b : j < M.1 + 1 := b
    show fg_id (mz_up M.2.2.1 M.1 _ i) < fg_id (mz_up M.2.2.1 M.1 _ j)
    rw [mz_up_n (show i ≠ M.1 by omega)]
    by_cases z : j = M.1
    · subst z; rw [mz_up_s]; exact O.2 i (by omega)
    · rw [mz_up_n z]; exact O.1 i j a (by omega)
  · have b : j < M.1 + 1 := b
    show fg_id (mz_up M.2.2.1 M.1 _ j) < M.2.1 + 1
    by_cases z : j = M.1
    · subst z; rw [mz_up_s]; exact Nat.lt_succ_self _
    · rw [mz_up_n z]; have := O.2 j (by omega); omega
theorem mm_ok_drop {M M' : mm_T} {v r : Int32} (O : mm_ok M) (h : ok_drop M v r M') : mm_ok M' := by
  obtain ⟨k, hf, -, -, rfl⟩ := h
  have hk : k < M.1 := hf.1
  have key : ∀ j, j < M.1 - 1 → ∃ i, i < M.1 ∧ (mm_drop M k).2.2.1 j = M.2.2.1 i ∧ (i = j ∧ j < k ∨ i = j + 1 ∧ k ≤ j) := fun j hj => by
    show ∃ i, i < M.1 ∧ mm_del M.2.2.1 k j = M.2.2.1 i ∧ _
    unfold mm_del
    by_cases z : j < k
    · exact ⟨j, by omega, if_pos z, Or.inl ⟨rfl, z⟩⟩
    · exact ⟨j + 1, by omega, if_neg z, Or.inr ⟨rfl, by omega⟩⟩
  refine ⟨fun i j a b => ?_, fun j b => ?_⟩
  · have b : j < M.1 - 1 := b
    obtain ⟨i', a1, a2, a3⟩ := key i (by omega)
    obtain ⟨j', b1, b2, b3⟩ := key j b
    rw [a2, b2]
    exact O.1 i' j' (by omega) b1
  · have b : j < M.1 - 1 := b
    obtain ⟨j', b1, b2, b3⟩ := key j b
    rw [b2]
    exact O.2 j' b1
theorem mm_ok_put {M M' : mm_T} {v y x r : Int32} (O : mm_ok M) (h : ok_put M v y x r M') : mm_ok M' := by
  obtain ⟨k, i, j, -, -, -, -, -, -, -, -, rfl⟩ := h
  exact mm_ok_id O rfl rfl (fun j' => mm_up_id (F := M.2.2.1) (k := k) (f := fg_sce (M.2.2.1 k) (8 * i + j + 1)) rfl j')
theorem mm_ok_take {M M' : mm_T} {v r : Int32} (O : mm_ok M) (h : ok_take M v r M') : mm_ok M' := by
  obtain ⟨k, c, -, -, -, -, rfl⟩ := h
  exact mm_ok_id O rfl rfl (fun j' => mm_up_id (F := M.2.2.1) (k := k) (f := fg_sce (M.2.2.1 k) 0) rfl j')
theorem mm_ok_turn {M M' : mm_T} {v t r : Int32} (O : mm_ok M) (h : ok_turn M v t r M') : mm_ok M' := by
  obtain ⟨k, t', -, -, -, -, rfl⟩ := h
  exact mm_ok_id O rfl rfl (fun j' => mm_up_id (F := M.2.2.1) (k := k) (f := fg_stn (M.2.2.1 k) t') rfl j')
theorem mm_ok_swap {M M' : mm_T} {v w r : Int32} (O : mm_ok M) (h : ok_swap M v w r M') : mm_ok M' := by
  obtain ⟨k, l, c, d, -, -, hkl, -, -, -, -, -, rfl⟩ := h
  refine mm_ok_id O rfl rfl (fun j => ?_)
  show fg_id (mz_up (mz_up M.2.2.1 k _) l _ j) = _
  have u : ∀ j, fg_id (mz_up M.2.2.1 k (fg_sce (M.2.2.1 k) (d + 1)) j) = fg_id (M.2.2.1 j) := fun j => mm_up_id (F := M.2.2.1) (k := k) (f := fg_sce (M.2.2.1 k) (d + 1)) rfl j
  exact (mm_up_id (F := mz_up M.2.2.1 k (fg_sce (M.2.2.1 k) (d + 1))) (k := l) (f := fg_sce (M.2.2.1 l) (c + 1)) (u l).symm j).trans (u j)
theorem mm_ok_fl : ∀ (m : Nat) {M M' : mm_T} {r : Nat}, mm_ok M → mm_fl m M r M' → mm_ok M'
  | 0, M, M', r, O, h => by rw [h.2]; exact O
  | m + 1, M, M', r, O, h => by
    rcases h with ⟨-, -, rfl⟩ | ⟨c, k, r', -, -, -, -, h⟩
    · exact O
    · exact mm_ok_fl m (mm_ok_pg O) h
theorem mm_ok_ex {M M' : mm_T} {q : Nat × List Nat} (O : mm_ok M) (h : ex_ok M q M') : mm_ok M' := by
  unfold ex_ok at h
  split at h
  · obtain ⟨r, h⟩ := h; exact mm_ok_add O h
  · obtain ⟨r, h⟩ := h; exact mm_ok_put O h
  · obtain ⟨r, h⟩ := h; exact mm_ok_take O h
  · obtain ⟨r, h⟩ := h; exact mm_ok_turn O h
  · obtain ⟨r, h⟩ := h; exact mm_ok_swap O h
  · obtain ⟨r, h⟩ := h; exact mm_ok_fl 20 O h
  · obtain ⟨r, h⟩ := h; exact mm_ok_drop O h
theorem mm_ok_l : ∀ (l : List (Nat × List Nat)) {M M' : mm_T}, mm_ok M → ex_l M l M' → mm_ok M'
  | [], M, M', O, h => by have h : M' = M := h; rw [h]; exact O
  | q :: l, M, M', O, h => by
    obtain ⟨M1, h1, h2⟩ := h
    exact mm_ok_l l (mm_ok_ex O h1) h2
end JX
