/-! The drawn catalogue. -/
section JX
/-- so many fragments, each with its place as id, of the colours of the law -/
def dw_I (n : Nat) (M : mm_T) : Prop := M.1 = n ∧ M.2.1 = n ∧ ∀ k, k < n → fg_id (M.2.2.1 k) = k ∧ 97 ≤ fg_co (M.2.2.1 k) ∧ fg_co (M.2.2.1 k) ≤ 102
theorem dw_up {F : Nat → fg_T} {k : Nat} {f : fg_T} (h1 : fg_id f = fg_id (F k)) (h2 : fg_co f = fg_co (F k)) (j : Nat) : fg_id (mz_up F k f j) = fg_id (F j) ∧ fg_co (mz_up F k f j) = fg_co (F j) := by
  by_cases z : j = k
  · subst z; rw [mz_up_s]; exact ⟨h1, h2⟩
  · rw [mz_up_n z]; exact ⟨rfl, rfl⟩
theorem dw_sm {n : Nat} {M M' : mm_T} (D : dw_I n M) (h1 : M'.1 = M.1) (h2 : M'.2.1 = M.2.1) (h : ∀ j, fg_id (M'.2.2.1 j) = fg_id (M.2.2.1 j) ∧ fg_co (M'.2.2.1 j) = fg_co (M.2.2.1 j)) : dw_I n M' :=
  ⟨h1.trans D.1, h2.trans D.2.1, fun k hk => by rw [(h k).1, (h k).2]; exact D.2.2 k hk⟩
theorem dw_put {n : Nat} {M M' : mm_T} {v y x : Int32} (D : dw_I n M) (q : ∃ r, ok_put M v y x r M') : dw_I n M' := by
  obtain ⟨r, k, i, j, -, -, -, -, -, -, -, -, rfl⟩ := q
  exact dw_sm D rfl rfl (dw_up rfl rfl)
theorem dw_take {n : Nat} {M M' : mm_T} {v : Int32} (D : dw_I n M) (q : ∃ r, ok_take M v r M') : dw_I n M' := by
  obtain ⟨r, k, c, -, -, -, -, rfl⟩ := q
  exact dw_sm D rfl rfl (dw_up rfl rfl)
theorem dw_turn {n : Nat} {M M' : mm_T} {v t : Int32} (D : dw_I n M) (q : ∃ r, ok_turn M v t r M') : dw_I n M' := by
  obtain ⟨r, k, t', -, -, -, -, rfl⟩ := q
  exact dw_sm D rfl rfl (dw_up rfl rfl)
theorem dw_pg {n : Nat} {M M' : mm_T} {y x : Int32} (D : dw_I n M) (q : ∃ r, ok_pg M y x r M') : dw_I n M' := by
  obtain ⟨r, c, k, -, -, -, -, rfl⟩ := q
  exact dw_sm D rfl rfl (dw_up rfl rfl)
theorem dw_fd {n k : Nat} {M : mm_T} (D : dw_I n M) (hk : k < n) : ¬ mm_fd M (nI k) none := fun q => q k (by rw [D.1]; exact hk) (by rw [(D.2.2 k hk).1])
section DW
variable {xs : List Int32} {C : cl_T} {h : jx_H}
theorem l_165 (L : lo_I xs C h) (hL : xs.length ≤ 4000) {i : Nat} (hi : i < 1000) : ∃ y : Int32, jx_A 165 [.ref 199, .int (nI i)] h = some (.inl (some (.int y)), h) := by
  have e : h.1 199 = some (100, xs.map .int) := (L.1 199 (by decide)).trans rfl
  rw [a_165, jx_sz_e e (by decide), List.length_map]
  by_cases c : xs.length ≤ i
  · exact ⟨_, by rw [if_pos (nI_le c (by omega))]⟩
  · have hi' : i < xs.length := by omega
    exact ⟨xs[i], by rw [if_neg (nI_ge hi' (by omega)), jx_lI_e e (nI_pos' (by omega)) (by rw [nI_clamp (by omega), List.getElem?_map, List.getElem?_eq_getElem hi']; rfl)]⟩
theorem l_167 {c : Nat} (hc : c < 2 ^ 31) (h : jx_H) : ∃ p, p ≤ 15 ∧ jx_A 167 [.int (nI c)] h = some (.inl (some (.int (nI p))), h) := by
  rw [a_167, ir_m hc (m := 6) (w := 6) (by decide) rfl]
  split
  · exact ⟨3, by decide, rfl⟩
  · split
    · exact ⟨12, by decide, rfl⟩
    · split
      · exact ⟨5, by decide, rfl⟩
      · split
        · exact ⟨10, by decide, rfl⟩
        · split
          · exact ⟨0, by decide, rfl⟩
          · obtain ⟨d, hd, e⟩ := ir_s hc ((3 : Int32).toUInt32 &&& Int32.toUInt32 31)
            rw [e, ir_m hd (m := 16) (w := 16) (by decide) rfl]
            exact ⟨d % 16, by omega, rfl⟩
theorem dw_char : ∀ c, c < 3 → ((97 + nI c).toUInt32 % 65536).toInt32 = nI (97 + c) := by decide +kernel
/-- a fragment is added -/
theorem dw_add (L : lo_I xs C h) {i c a1 a2 a3 a4 : Nat} (D : dw_I i C.1) (hi : i < 20) (hc : c < 3) (b1 : a1 ≤ 15) (b2 : a2 ≤ 15) (b3 : a3 ≤ 15) (b4 : a4 ≤ 15) :
    ∃ M' h', jx_A 133 [.ref 200, .int (nI (97 + c)), .int (nI a1), .int (nI a2), .int (nI a3), .int (nI a4)] h = some (.inl (some (.int (nI i))), h') ∧ dw_I (i + 1) M' ∧ lo_I xs (cl_push (cl_M C M') C.1) h' ∧ zz 0 h h' := by
  rcases c_60 L.1 L.2.1 (by rw [D.2.1]; omega) (nI (97 + c)) (nI a1) (nI a2) (nI a3) (nI a4) with ⟨r, M', h', ⟨c', n', e', s', w', ⟨q1, q2, q3⟩, -, -, -, -, -, rfl, rfl⟩, e, I, t⟩ | ⟨r, s, h', q1, -⟩
  · rw [D.2.1] at e
    refine ⟨_, h', w_133_ok L.2.1 e, ⟨?_, ?_, fun k hk => ?_⟩, lo_eq L t I, zz_eq t⟩
    · show C.1.1 + 1 = i + 1
      rw [D.1]
    · show C.1.2.1 + 1 = i + 1
      rw [D.2.1]
    · show fg_id (mz_up C.1.2.2.1 C.1.1 _ k) = k ∧ 97 ≤ fg_co (mz_up C.1.2.2.1 C.1.1 _ k) ∧ fg_co (mz_up C.1.2.2.1 C.1.1 _ k) ≤ 102
      rw [D.1]
      by_cases z : k = i
      · subst z
        rw [mz_up_s]
        exact ⟨D.2.1, q2, q3⟩
      · rw [mz_up_n z]
        exact D.2.2 k (by omega)
  · exfalso
    rcases q1 with ⟨q | q | q | q | q, -⟩ | ⟨-, -, -, -, -, q, -⟩
    · exact q _ (by omega) (by omega) rfl
    · exact q _ b1 rfl
    · exact q _ b2 rfl
    · exact q _ b3 rfl
    · exact q _ b4 rfl
    · rw [D.1] at q; omega
theorem dw_26 (hL : xs.length ≤ 4000) {n c : Nat} (hn : n ≤ 12) (R : jx_R → Prop) :
    ∀ (f i : Nat) {C : cl_T} {h : jx_H} {v5 v6 v7 v8 : Value}, i + f = n → dw_I i C.1 → lo_I xs C h → C.2.2.2.2.2.1.1 = 0 →
    (∀ (C' : cl_T) (h' : jx_H) (v5 v6 v7 v8 : Value), dw_I n C'.1 → lo_I xs C' h' → C'.2.2.2.2.2.1.1 = 0 → zz 0 h h' → R (jx_E 168 103 [.ref 199, .ref 200, .int (nI c), .int (nI n), .int (nI 0), v5, v6, v7, v8] [] h')) →
    R (jx_E 168 26 [.ref 199, .ref 200, .int (nI c), .int (nI n), .int (nI i), v5, v6, v7, v8] [] h)
  | 0, i, C, h, v5, v6, v7, v8, hf, hw, L, z, k => by
    have hi : i = n := by omega
    subst hi
    rw [b_168_26, if_pos (nI_le (Nat.le_refl _) (by omega))]
    exact k C h v5 v6 v7 v8 hw L z zz_rf
  | f + 1, i, C, h, v5, v6, v7, v8, hf, hw, L, z, k => by
    have e1 : (1 : Int32) + nI i = nI (1 + i) := nI_add 1 i
    obtain ⟨y, ey⟩ := l_165 L hL (i := 1 + i) (by omega)
    obtain ⟨d, hd, ed⟩ := ir_y y
    obtain ⟨d1, hd1, ed1⟩ := ir_s hd ((2 : Int32).toUInt32 &&& Int32.toUInt32 31)
    obtain ⟨d2, hd2, ed2⟩ := ir_s hd ((8 : Int32).toUInt32 &&& Int32.toUInt32 31)
    obtain ⟨d3, hd3, ed3⟩ := ir_s hd ((14 : Int32).toUInt32 &&& Int32.toUInt32 31)
    obtain ⟨d4, hd4, ed4⟩ := ir_s hd ((20 : Int32).toUInt32 &&& Int32.toUInt32 31)
    obtain ⟨p1, b1, x1⟩ := l_167 hd1 h
    obtain ⟨p2, b2, x2⟩ := l_167 hd2 h
    obtain ⟨p3, b3, x3⟩ := l_167 hd3 h
    obtain ⟨p4, b4, x4⟩ := l_167 hd4 h
    obtain ⟨M', h', x5, D', L', z'⟩ := dw_add L hw (by omega) (show d % 3 < 3 by omega) b1 b2 b3 b4
    rw [b_168_26, if_neg (nI_ge (by omega) (by omega)), e1, jx_cI_e ey, ed, ed1, ed2, ed3, ed4, jx_cI_e x1, jx_cI_e x2, jx_cI_e x3, jx_cI_e x4, ir_m hd (m := 3) (w := 3) (by decide) rfl, dw_char _ (by omega), jx_cI_e x5, if_pos rfl, nI_1]
    exact dw_26 hL hn R f (i + 1) (by omega) D' L' z (fun C' h2 v5 v6 v7 v8 a b c d => k C' h2 v5 v6 v7 v8 a b c (zz_tr z' d))
end DW
end JX
