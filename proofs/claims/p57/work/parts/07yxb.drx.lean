/-! The drawn catalogue: its changes. -/
section JX
section DW
variable {xs : List Int32} {C : cl_T} {h : jx_H}
theorem nI_m1 {m : Nat} (hm : m < 2 ^ 31) : nI m ≠ -1 := fun e => nI_pos hm (e.symm ▸ (by decide))
theorem lc_go {n : Nat} {X : jx_R} {ok : mm_T → Prop} {N : Prop} (c : lc_I xs C h X ok N) (hN : ¬ N) (z : C.2.2.2.2.2.1.1 = 0) (D : dw_I n C.1) (ho : ∀ M', ok M' → dw_I n M') :
    ∃ (r : Int32) (C' : cl_T) (h' : jx_H), X = some (.inl (some (.int r)), h') ∧ r ≠ -1 ∧ lo_I xs C' h' ∧ dw_I n C'.1 ∧ C'.2.2.2.2.2.1.1 = 0 ∧ zz 1 h h' := by
  rcases c with ⟨m, M', h', hm, o, e, L, t⟩ | ⟨r, h', q, -, e, L, t⟩
  · exact ⟨_, _, h', e, nI_m1 (by omega), L, ho M' o, z, zz_wd t (by decide)⟩
  · exact ⟨r, C, h', e, fun a => hN (q a), L, D, z, t⟩
theorem q_cell0 {a b : Nat} (ha : a ≤ 7) (hb : b ≤ 7) : ¬ q_cell (nI a) (nI b) none := by
  rintro (q | q)
  · exact q a ha rfl
  · exact q b hb rfl
theorem dw_103 (hL : xs.length ≤ 4000) {n c : Nat} (h4 : 4 ≤ n) (hn : n ≤ 12) (hc : c < 2 ^ 31) :
    ∀ (f i : Nat) {C : cl_T} {h : jx_H} {v5 v6 v7 v8 : Value}, i + f = 9 → dw_I n C.1 → lo_I xs C h → C.2.2.2.2.2.1.1 = 0 →
    ∃ (C' : cl_T) (h' : jx_H), jx_E 168 103 [.ref 199, .ref 200, .int (nI c), .int (nI n), .int (nI i), v5, v6, v7, v8] [] h = some (.inl (some (.ref 200)), h') ∧ lo_I xs C' h' ∧ dw_I n C'.1 ∧ C'.2.2.2.2.2.1.1 = 0 ∧ zz (f + 1) h h'
  | 0, i, C, h, v5, v6, v7, v8, hf, hw, L, z => by
    have hi : i = 9 := by omega
    subst hi
    obtain ⟨c1, hc1, ec1⟩ := ir_s hc ((11 : Int32).toUInt32 &&& Int32.toUInt32 31)
    obtain ⟨c2, hc2, ec2⟩ := ir_s hc ((13 : Int32).toUInt32 &&& Int32.toUInt32 31)
    have q := dw_fd hw (show c2 % n < n from Nat.mod_lt _ (by omega))
    rw [b_168_103, if_pos (by decide), ec1, ec2, ir_m hc2 (m := n) (w := nI n) (by omega) rfl]
    by_cases k : (nI c1 - nI c1 / 4 * 4) = 0
    · rw [if_pos k, if_neg (nI_ne0 (by omega) (by omega))]
      obtain ⟨r, C', h', e, hr, L', D', z', t⟩ := lc_go (l_142 L (nI (c2 % n))) q z hw (fun M' a => dw_take hw a)
      exact ⟨C', h', by rw [jx_cI_e e, if_neg hr], L', D', z', t⟩
    · rw [if_neg k]
      exact ⟨C, h, rfl, L, hw, z, zz_wd zz_rf (Nat.zero_le _)⟩
  | f + 1, i, C, h, v5, v6, v7, v8, hf, hw, L, z => by
    have e1 : (13 : Int32) + nI i = nI (13 + i) := nI_add 13 i
    obtain ⟨y, ey⟩ := l_165 L hL (i := 13 + i) (by omega)
    obtain ⟨d, hd, ed⟩ := ir_y y
    obtain ⟨c1, hc1, ec1⟩ := ir_s hc ((4 : Int32).toUInt32 &&& Int32.toUInt32 31)
    obtain ⟨c2, hc2, ec2⟩ := ir_s hc ((7 : Int32).toUInt32 &&& Int32.toUInt32 31)
    obtain ⟨d1, hd1, ed1⟩ := ir_s hd ((4 : Int32).toUInt32 &&& Int32.toUInt32 31)
    obtain ⟨d2, hd2, ed2⟩ := ir_s hd ((6 : Int32).toUInt32 &&& Int32.toUInt32 31)
    obtain ⟨d3, hd3, ed3⟩ := ir_s hd ((9 : Int32).toUInt32 &&& Int32.toUInt32 31)
    obtain ⟨d4, hd4, ed4⟩ := ir_s hd ((13 : Int32).toUInt32 &&& Int32.toUInt32 31)
    have nn : d3 % n < n := Nat.mod_lt _ (by omega)
    have q := dw_fd hw nn
    have b1 : c1 % 6 + d1 % 3 ≤ 7 := by omega
    have b2 : c2 % 6 + d2 % 3 ≤ 7 := by omega
    have go : ∀ {X : jx_R} {ok : mm_T → Prop} {N : Prop} (v5 v6 v7 : Value) (F : Int32 → jx_H → jx_R), lc_I xs C h X ok N → ¬ N → (∀ M', ok M' → dw_I n M') →
        (∀ (r : Int32) (h1 : jx_H), X = some (.inl (some (.int r)), h1) → r ≠ -1 → ∃ v8, F r h1 = jx_E 168 103 [.ref 199, .ref 200, .int (nI c), .int (nI n), .int (nI (i + 1)), v5, v6, v7, v8] [] h1) →
        ∃ (C' : cl_T) (h' : jx_H), (∀ (m : Nat) (as : List Value), jx_A m as h = X → jx_cI jx_A m as h F = some (.inl (some (.ref 200)), h')) ∧ lo_I xs C' h' ∧ dw_I n C'.1 ∧ C'.2.2.2.2.2.1.1 = 0 ∧ zz (f + 1 + 1) h h' := by
      intro X ok N v5 v6 v7 F lc hN ho hF
      obtain ⟨r, C1, h1, e, hr, L1, D1, z1, t1⟩ := lc_go lc hN z hw ho
      obtain ⟨v8, e8⟩ := hF r h1 e hr
      obtain ⟨C', h', e', L', D', z', t'⟩ := dw_103 hL h4 hn hc f (i + 1) (v5 := v5) (v6 := v6) (v7 := v7) (v8 := v8) (by omega) D1 L1 z1
      exact ⟨C', h', fun m as em => by rw [jx_cI_e (em.trans e), e8, e'], L', D', z', zz_wd (zz_tr t1 t') (by omega)⟩
    rw [b_168_103, if_neg (show ¬ (9 : Int32) ≤ nI i from nI_ge (b := 9) (by omega) (by decide)), e1, jx_cI_e ey, ed, ec1, ec2, ed1, ed2, ed3, ed4, ir_m hd (m := 4) (w := 4) (by decide) rfl, ir_m hd3 (m := n) (w := nI n) (by omega) rfl, ir_m hd4 (m := 4) (w := 4) (by decide) rfl, ir_m hc1 (m := 6) (w := 6) (by decide) rfl, ir_m hc2 (m := 6) (w := 6) (by decide) rfl, ir_m hd1 (m := 3) (w := 3) (by decide) rfl, ir_m hd2 (m := 3) (w := 3) (by decide) rfl, nI_add, nI_add, nI_1, if_neg (nI_ne0 (n := n) (by omega) (by omega)), if_neg (nI_ne0 (n := n) (by omega) (by omega))]
    by_cases k0 : nI (d % 4) = 0
    · rw [if_pos k0]
      obtain ⟨C', h', e, r⟩ := go (.int (nI d)) (.int (nI (c1 % 6 + d1 % 3))) (.int (nI (c2 % 6 + d2 % 3))) _ (l_143 L (nI (d3 % n)) (nI (d4 % 4))) q (fun M' a => dw_turn hw a) (fun r h1 _ hr => ⟨.int r, if_neg hr⟩)
      exact ⟨C', h', e _ _ rfl, r⟩
    · rw [if_neg k0]
      by_cases k1 : nI (d % 4) = 1
      · rw [if_pos k1]
        obtain ⟨C', h', e, r⟩ := go (.int (nI d)) (.int (nI (c1 % 6 + d1 % 3))) (.int (nI (c2 % 6 + d2 % 3))) _ (l_145 L (nI (c1 % 6 + d1 % 3)) (nI (c2 % 6 + d2 % 3))) (q_cell0 b1 b2) (fun M' a => dw_pg hw a) (fun r h1 _ hr => ⟨.int r, if_neg hr⟩)
        exact ⟨C', h', e _ _ rfl, r⟩
      · rw [if_neg k1]
        obtain ⟨C', h', e, r⟩ := go (.int (nI d)) (.int (nI (c1 % 6 + d1 % 3))) (.int (nI (c2 % 6 + d2 % 3))) _ (l_141 L (nI (d3 % n)) (nI (c1 % 6 + d1 % 3)) (nI (c2 % 6 + d2 % 3))) q (fun M' a => dw_put hw a) (fun r h1 _ hr => ⟨.int r, if_neg hr⟩)
        exact ⟨C', h', e _ _ rfl, r⟩
theorem dw_dr {n : Nat} (L : lo_I xs C h) (D : dw_I n C.1) : dr_I C.1 ∧ dr_K C.1 := by
  have O := cl_I_ok L.2.1
  exact ⟨⟨O.2.2.2.1, O.1, O.2.2.1, fun k hk => (D.2.2 k (by rw [← D.1]; exact hk)).1⟩, fun k hk => (D.2.2 k (by rw [← D.1]; exact hk)).2⟩
theorem dw_0 : dw_I 0 cl_Z.1 := ⟨rfl, rfl, fun _ hk => absurd hk (Nat.not_lt_zero _)⟩
/-- the drawn catalogue stands -/
theorem l_168 (K : mz_K xs h) (hL : xs.length ≤ 4000) (h2 : h.2 = (200, 0, 0)) : ∃ (C : cl_T) (h' : jx_H), jx_A 168 [.ref 199] h = some (.inl (some (.ref 200)), h') ∧ lo_I xs C h' ∧ dr_I C.1 ∧ dr_K C.1 ∧ C.1.2.1 ≤ 12 ∧ C.2.2.2.2.2.1.1 = 0 ∧ h'.2.2.1 ≤ 521 ∧ h'.2.2.2 ≤ 3378 := by
  have S : cn_2 h 200 0 := ⟨h2, Nat.le_refl _⟩
  have n1 : h.2.1 = 200 := by rw [h2]
  have S1 := cn_add S (7, [.null, .null, .int 0, .null, .null, .null, .null, .null, .int 0, .int 0, .int 0]) 11
  have K1 : mz_K xs (jx_add h (7, [.null, .null, .int 0, .null, .null, .null, .null, .null, .int 0, .int 0, .int 0]) 11) := fun q hq => (cn_add_n S (by have : q < 200 := hq; omega)).trans (K q hq)
  obtain ⟨h1, x1, S2, I, f1⟩ := cn_59 K1 S1 (cn_add_e S)
  have L1 : lo_I xs cl_Z h1 := ⟨fun q hq => (f1 q (Or.inl hq)).trans (K1 q hq), I, by rw [S2.1]; exact Nat.le_refl _, by rw [S2.1]⟩
  obtain ⟨y, ey⟩ := l_165 L1 hL (i := 0) (by decide)
  obtain ⟨c, hc, ec⟩ := ir_y y
  have e0 : jx_A 165 [.ref 199, .int 0] h1 = some (.inl (some (.int y)), h1) := ey
  rw [a_168, cn_obj S, n1, jx_cV_e x1, jx_cI_e e0, ec, ir_m hc (m := 9) (w := 9) (by decide) rfl, show (4 : Int32) + nI (c % 9) = nI (4 + c % 9) from nI_add 4 _]
  refine dw_26 hL (n := 4 + c % 9) (c := c) (by omega) (fun X => ∃ (C : cl_T) (h' : jx_H), X = some (.inl (some (.ref 200)), h') ∧ lo_I xs C h' ∧ dr_I C.1 ∧ dr_K C.1 ∧ C.1.2.1 ≤ 12 ∧ C.2.2.2.2.2.1.1 = 0 ∧ h'.2.2.1 ≤ 521 ∧ h'.2.2.2 ≤ 3378) (4 + c % 9) 0 (by omega) dw_0 L1 rfl (fun C' h3 v5 v6 v7 v8 D3 L3 z3 t3 => ?_)
  obtain ⟨C4, h4, e4, L4, D4, z4, t4⟩ := dw_103 hL (c := c) (by omega) (by omega) hc 9 0 (v5 := v5) (v6 := v6) (v7 := v7) (v8 := v8) (by omega) D3 L3 z3
  obtain ⟨-, ⟨k, a1, a2, a3⟩, a4⟩ := zz_tr t3 t4
  have s1 : h1.2.2.1 = 511 := by rw [S2.1]
  have s2 : h1.2.2.2 = 3258 := by rw [S2.1]
  exact ⟨C4, h4, e4, L4, (dw_dr L4 D4).1, (dw_dr L4 D4).2, by rw [D4.2.1]; omega, z4, by omega, by omega⟩
end DW
end JX
