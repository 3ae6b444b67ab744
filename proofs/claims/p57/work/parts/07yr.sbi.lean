/-! Builders: append of a number; toString. -/
section JX
def dg (v : Nat) : List Nat := if v < 10 then [48 + v] else [48 + v / 10, 48 + v % 10]
theorem dg_1 {v : Nat} (h : v < 10) : dg v = [48 + v] := if_pos h
theorem dg_2 {v : Nat} (h : ¬ v < 10) : dg v = [48 + v / 10, 48 + v % 10] := if_neg h
theorem dg_len (v : Nat) : (dg v).length ≤ 2 := by unfold dg; split <;> exact Nat.le_of_ble_eq_true rfl
theorem m_272 {v : Nat} (hv : v < 100) (h : jx_H) : jx_A 272 [.int (nI v)] h = some (.inl (some (.int (nI (dg v).length))), h) := by
  have f1 : ∀ v, v < 100 → ¬ nI v < 0 := by decide +kernel
  have f2 : ∀ v, v < 100 → ¬ v < 10 → -nI v ≤ -10 := by decide +kernel
  have f3 : ∀ v, v < 100 → v < 10 → ¬ -nI v ≤ -10 := by decide +kernel
  have f4 : ∀ v, v < 100 → ¬ -nI v ≤ 10 * -10 := by decide +kernel
  rw [a_272, if_neg (f1 v hv), b_272_16, if_neg (by decide)]
  by_cases z : v < 10
  · rw [if_neg (f3 v hv z), dg_1 z]; rfl
  · rw [if_pos (f2 v hv z), b_272_16, if_neg (by decide), if_neg (f4 v hv), dg_2 z]; rfl
def dg_o : List Nat := [48, 49, 50, 51, 52, 53, 54, 55, 56, 57, 48, 49, 50, 51, 52, 53, 54, 55, 56, 57, 48, 49, 50, 51, 52, 53, 54, 55, 56, 57, 48, 49, 50, 51, 52, 53, 54, 55, 56, 57, 48, 49, 50, 51, 52, 53, 54, 55, 56, 57, 48, 49, 50, 51, 52, 53, 54, 55, 56, 57, 48, 49, 50, 51, 52, 53, 54, 55, 56, 57, 48, 49, 50, 51, 52, 53, 54, 55, 56, 57, 48, 49, 50, 51, 52, 53, 54, 55, 56, 57, 48, 49, 50, 51, 52, 53, 54, 55, 56, 57]
def dg_t : List Nat := [48, 48, 48, 48, 48, 48, 48, 48, 48, 48, 49, 49, 49, 49, 49, 49, 49, 49, 49, 49, 50, 50, 50, 50, 50, 50, 50, 50, 50, 50, 51, 51, 51, 51, 51, 51, 51, 51, 51, 51, 52, 52, 52, 52, 52, 52, 52, 52, 52, 52, 53, 53, 53, 53, 53, 53, 53, 53, 53, 53, 54, 54, 54, 54, 54, 54, 54, 54, 54, 54, 55, 55, 55, 55, 55, 55, 55, 55, 55, 55, 56, 56, 56, 56, 56, 56, 56, 56, 56, 56, 57, 57, 57, 57, 57, 57, 57, 57, 57, 57]
theorem dg_oe : ∀ v, v < 100 → dg_o[v]? = some (48 + v % 10) := by decide +kernel
theorem dg_te : ∀ v, v < 100 → dg_t[v]? = some (48 + v / 10) := by decide +kernel
/-- what was there stays; so much is new -/
def zj (N : Nat) (h h' : jx_H) : Prop := (∀ q, q < h.2.1 → h'.1 q = h.1 q) ∧ (∃ k, k ≤ N ∧ h'.2.1 = h.2.1 + k ∧ h'.2.2.1 = h.2.2.1 + k) ∧ h'.2.2.2 ≤ h.2.2.2 + 12 * N
theorem zj_y {N : Nat} {h h' : jx_H} (a b : Nat) (z : zj N h h') : yb a b N h h' := ⟨fun q h1 _ _ => z.1 q h1, z.2⟩
section BU
variable {xs : List Int32} {h : jx_H} {a b cap : Nat} {l : List Nat}
theorem mz_K_y {a b N : Nat} {h h' : jx_H} (K : mz_K xs h) (H : hOk h) (z : yb a b N h h') (ha : 711 ≤ a) (hb : 711 ≤ b) : mz_K xs h' := fun q hq => by
  have hq' : q < 200 := hq
  have := H.2
  exact (z.1 q (by omega) (by omega) (by omega)).trans (K q hq)
theorem m_273 (K : mz_K xs h) {v n cap : Nat} {u : Nat → Int32} (hv : v < 100) (R : h.1 b = some (104, mz_ar cap (fun i => .int (u i)))) (hb : 711 ≤ b) (hc : cap ≤ 34) (hp : n + (dg v).length ≤ cap) : ∃ h', jx_A 273 [.int (nI v), .int (nI (n + (dg v).length)), .ref b] h = some (.inl (some (.int (nI n))), h') ∧ h'.1 b = some (104, mz_ar cap (fun i => .int (if n ≤ i ∧ i < n + (dg v).length then nI ((dg v).getD (i - n) 0) else u i))) ∧ (∀ q, q ≠ b → h'.1 q = h.1 q) ∧ h'.2 = h.2 := by
  have f1 : ∀ v, v < 100 → 0 ≤ nI v := by decide +kernel
  have f2 : ∀ v, v < 100 → -100 < -nI v := by decide +kernel
  have f3 : ∀ v, v < 100 → v < 10 → -9 ≤ -nI v := by decide +kernel
  have f4 : ∀ v, v < 100 → ¬ v < 10 → ¬ -9 ≤ -nI v := by decide +kernel
  have f5 : ∀ p, p < 40 → nI (p + 1) + -1 = nI p := by decide +kernel
  have K26 : h.1 26 = some (js_bs dg_o) := K 26 (by decide)
  have K27 : h.1 27 = some (js_bs dg_t) := K 27 (by decide)
  have rd : ∀ {A : Nat} {L : List Nat} {h : jx_H} {x : Nat} (F : Int32 → jx_R), h.1 A = some (js_bs L) → L[v]? = some x → jx_lI h A 104 (- -nI v) F = F (nI x) := fun {A L h x} F k e => by
    rw [Int32.neg_neg]
    exact jx_lI_e k (nI_pos' (by omega)) (by rw [nI_clamp (by omega), List.getElem?_map, e]; rfl) F
  rw [a_273, if_pos (f1 v hv), b_273_22, if_pos (f2 v hv), rd _ K26 (dg_oe v hv), (by_c (48 + v % 10) (by omega)).2]
  by_cases z : v < 10
  · rw [dg_1 z, show ([48 + v] : List Nat).length = 1 from rfl]
    rw [dg_1 z] at hp
    have hp : n + 1 ≤ cap := hp
    rw [f5 n (by omega), mz_st R (show 200 ≤ b by omega) (by omega) (by omega), if_pos (f3 v hv z), if_pos rfl]
    refine ⟨_, rfl, ?_, fun q hq => mz_set_n hq, rfl⟩
    rw [mz_set_e]
    congr 2
    refine mz_ar_cong (fun i _ => ?_)
    show (if i = n then Value.int (nI (48 + v % 10)) else .int (u i)) = .int (if n ≤ i ∧ i < n + 1 then nI ([48 + v].getD (i - n) 0) else u i)
    by_cases y : i = n
    · subst y
      rw [if_pos rfl, if_pos ⟨Nat.le_refl _, Nat.lt_succ_self _⟩, Nat.sub_self, Nat.mod_eq_of_lt z]
      rfl
    · rw [if_neg y, if_neg (by omega)]
  · rw [dg_2 z, show ([48 + v / 10, 48 + v % 10] : List Nat).length = 2 from rfl]
    rw [dg_2 z] at hp
    have hp : n + 2 ≤ cap := hp
    rw [f5 (n + 1) (by omega), mz_st R (show 200 ≤ b by omega) (by omega) (by omega), if_neg (f4 v hv z), rd _ (by rw [mz_set_n (by omega)]; exact K27) (dg_te v hv), (by_c (48 + v / 10) (by omega)).2, f5 n (by omega), mz_st mz_set_e (show 200 ≤ b by omega) (show n < cap by omega) (by omega), if_pos rfl]
    refine ⟨_, rfl, ?_, fun q hq => by rw [mz_set_n hq, mz_set_n hq], rfl⟩
    rw [mz_set_e]
    congr 2
    refine mz_ar_cong (fun i _ => ?_)
    show (if i = n then Value.int (nI (48 + v / 10)) else (if i = n + 1 then Value.int (nI (48 + v % 10)) else .int (u i))) = .int (if n ≤ i ∧ i < n + 2 then nI ([48 + v / 10, 48 + v % 10].getD (i - n) 0) else u i)
    by_cases y : i = n
    · subst y
      rw [if_pos rfl, if_pos ⟨Nat.le_refl _, by omega⟩, Nat.sub_self]
      rfl
    · by_cases y2 : i = n + 1
      · subst y2
        rw [if_neg y, if_pos rfl, if_pos ⟨by omega, by omega⟩, show n + 1 - n = 1 by omega]
        rfl
      · rw [if_neg y, if_neg y2, if_neg (by omega)]
/-- append(int) -/
theorem m_259 (K : mz_K xs h) (H : hOk h) (B : bu h a b cap l) {v : Nat} (hv : v < 100) (hl : l.length + (dg v).length ≤ 34) : ∃ h' b' cap', jx_A 259 [.ref a, .int (nI v)] h = some (.inl (some (.ref a)), h') ∧ bu h' a b' cap' (l ++ dg v) ∧ (b' = b ∨ h.2.1 ≤ b') ∧ yb a b 3 h h' := by
  obtain ⟨h1, b', cap', e1, B1, hq, hb, z1⟩ := m_264 H B hl
  have e2 := m_266 B1
  have is0 := bu_is B
  have is1 := bu_is B1
  have up := yb_up z1
  obtain ⟨u0, m0, k1, -, -, -, -, k6, k7, -⟩ := B
  have K1 := mz_K_y K H z1 k6 k7
  obtain ⟨u, ml, g1, g2, g3, g4, g5, g6, g7, g8, g9, g10, g11⟩ := B1
  obtain ⟨h2, e3, r1, r2, r3⟩ := m_273 K1 hv g2 g7 (by omega) hq
  have g1' : h2.1 a = some (8, [.ref b', .int 0, .int ml, .int (nI l.length)]) := (r2 a g8).trans g1
  have e4 : jx_A 263 [.ref a, .int (nI v)] h = some (.inl (some (.ref a)), jx_set h2 a (8, [.ref b', .int 0, .int ml, .int (nI (l.length + (dg v).length))])) := by
    rw [a_263, jx_gI_e k1 rfl, jx_cI_e (m_272 hv h), is0, nI_add, jx_cV_e e1, is1, jx_cI_e e2, if_neg (by decide), jx_gA_e g1 rfl, jx_cI_e e3, jx_pt_e g1' (show 200 ≤ a by omega) (by show 3 < 4; decide)]
    rfl
  have e8 := a_259 a (nI v) h
  rw [is0, jx_cA_e e4] at e8
  have s1 : h2.2.1 = h1.2.1 := by rw [r3]
  refine ⟨_, b', cap', e8, ⟨_, ml, by rw [List.length_append]; exact mz_set_e, by rw [mz_set_n (fun e => g8 e.symm)]; exact r1, fun i hi => ?_, by rw [List.length_append]; exact hq, g5, g6, g7, g8, (by show a < h2.2.1; omega), (by show b' < h2.2.1; omega), fun x hx => ?_⟩, ?_, ?_⟩
  · rw [List.length_append] at hi
    show (if l.length ≤ i ∧ i < l.length + (dg v).length then nI ((dg v).getD (i - l.length) 0) else u i) = _
    by_cases y : i < l.length
    · rw [if_neg (by omega), getD_l y]; exact g3 i y
    · rw [if_pos ⟨by omega, hi⟩, getD_r (by omega)]
  · rcases List.mem_append.mp hx with y | y
    · exact g11 x y
    · revert y
      unfold dg
      split
      · intro y; rw [List.mem_singleton.mp y]; omega
      · intro y
        rcases List.mem_cons.mp y with y | y
        · rw [y]; omega
        · rw [List.mem_singleton.mp y]; omega
  · rcases hb with y | y
    · exact Or.inl y
    · exact Or.inr (by omega)
  · refine yb_tr (N := 3) (N' := 0) z1 (b' := b') ?_ (by rcases hb with y | y <;> omega)
    exact ⟨fun q k1 k2 k3 => by rw [mz_set_n k2]; exact r2 q k3, ⟨0, Nat.le_refl _, by show h2.2.1 = _; rw [r3]; rfl, by show h2.2.2.1 = _; rw [r3]; rfl⟩, by show h2.2.2.2 ≤ _; rw [r3]; exact Nat.le_refl _⟩
theorem a_275n (v0 : Nat) (v1 : Nat) (h : jx_H) : jx_A 275 [.ref v0, .ref v1, .null] h = jx_is h v1 8 (jx_cA jx_A 267 [.ref v1] h (fun a2 h1 => jx_is h1 v1 8 (jx_cI jx_A 269 [.ref v1] h1 (fun y4 h3 => jx_is h3 v1 8 (jx_cI jx_A 266 [.ref v1] h3 (fun y6 h5 => if y6 = 0 then (jx_gI h5 v1 8 2 (fun x8 => if x8 = 0 then (jx_pt h5 v0 20 1 (.int 1) (fun h9 => jx_cA jx_A 279 [.ref a2, .int 0, .int (y4 <<< (1 &&& 31))] h9 (fun a11 h10 => jx_is h10 a11 104 (jx_pt h10 v0 20 0 (.ref a11) (fun h12 => some (.inl none, h12)))))) else (none))) else (jx_pt h5 v0 20 1 (.int 0) (fun h13 => jx_cA jx_A 279 [.ref a2, .int 0, .int y4] h13 (fun a15 h14 => jx_is h14 a15 104 (jx_pt h14 v0 20 0 (.ref a15) (fun h16 => some (.inl none, h16)))))))))))) := (jx_goA 275 [] 40 _ _).trans rfl
end BU
end JX
