/-! toString. -/
section JX
section BU
variable {xs : List Int32} {h : jx_H} {a b cap : Nat} {l : List Nat}
theorem mz_ar_b7 {n : Nat} {f : Nat → Int32} (h : ∀ i, i < n → ∃ v : Nat, v < 128 ∧ f i = nI v) : (mz_ar n (fun i => Value.int (f i))).all jx_b7 = true := by
  rw [List.all_eq_true]
  intro x hx
  obtain ⟨i, hi, rfl⟩ := List.mem_map.mp hx
  obtain ⟨v, hv, e⟩ := h i (List.mem_range.mp hi)
  show (decide (0 ≤ f i) && decide (f i < 128)) = true
  rw [e, decide_eq_true (nI_pos' (by omega)), decide_eq_true (show nI v < 128 from nI_lt (b := 128) hv (by decide))]
  rfl
theorem m_279 (H : hOk h) {u : Nat → Int32} (R : h.1 b = some (104, mz_ar cap (fun i => .int (u i)))) (hu : ∀ i, i < l.length → u i = nI (l.getD i 0)) (hx : ∀ x, x ∈ l → x < 128) (hl : l.length ≤ cap) (hc : cap ≤ 34) (hb : 711 ≤ b) (hb2 : b < h.2.1) :
    ∃ h', jx_A 279 [.ref b, .int 0, .int (nI l.length)] h = some (.inl (some (.ref h.2.1)), h') ∧ h'.1 h.2.1 = some (js_bs l) ∧ (∀ q, q < h.2.1 → h'.1 q = h.1 q) ∧ h'.2 = (h.2.1 + 1, h.2.2.1 + 1, h.2.2.2 + l.length) := by
  have hn : (mz_ar cap (fun i => Value.int (u i))).length = cap := mz_ar_len _ _
  rw [a_279, if_pos rfl, jx_sz_e R (by decide), hn]
  by_cases z : l.length = cap
  · rw [if_pos (by rw [z]), jx_cln_e R ⟨show 200 ≤ b by omega, mz_ar_b7 (fun i hi => ⟨l.getD i 0, (by
        have hi' : i < l.length := by omega
        rw [List.getD_eq_getElem?_getD, List.getElem?_eq_getElem hi']
        exact hx _ (List.getElem_mem hi')), hu i (by omega)⟩), by rw [hn]; omega, H.1⟩, if_pos (show jx_nc ≤ h.2.1 by have := H.2; show 200 ≤ h.2.1; omega), jx_is_e jx_add_s]
    refine ⟨_, rfl, ?_, fun q hq => jx_add_n (by omega), ?_⟩
    · rw [jx_add_s, js_bs_ar, z]
      congr 2
      exact mz_ar_cong (fun i hi => by rw [hu i (by omega)])
    · show (h.2.1 + 1, h.2.2.1 + 1, h.2.2.2 + (mz_ar cap (fun i => Value.int (u i))).length) = _
      rw [hn, z]
  · rw [if_neg (fun q => z ((nI_eq (by omega) (by omega)).mp q))]
    have e1 : jx_A 281 [.int 0, .int (nI l.length)] h = some (.inl none, h) := by rw [a_281, if_pos (nI_pos' (by omega))]
    have e2 : ∀ h, jx_A 247 [.int (nI cap), .int (nI l.length)] h = some (.inl (some (.int (nI l.length))), h) := fun h => by rw [a_247, if_pos (nI_lt (by omega) (by omega))]
    have g1 : ∀ o n, (jx_add h o n).1 b = some (104, mz_ar cap (fun i => .int (u i))) := fun o n => (jx_add_n (by omega)).trans R
    have ec : (nI l.length).toNatClampNeg = l.length := nI_clamp (by omega)
    have e3 : ∃ h', jx_A 280 [.ref b, .int 0, .int (nI l.length)] h = some (.inl (some (.ref h.2.1)), h') ∧ h'.1 h.2.1 = some (js_bs l) ∧ (∀ q, q < h.2.1 → h'.1 q = h.1 q) ∧ h'.2 = (h.2.1 + 1, h.2.2.1 + 1, h.2.2.2 + l.length) := by
      rw [a_280, jx_cV_e e1, Int32.sub_zero, if_pos ⟨nI_pos' (by omega), nI_le (b := 4096) (by omega) (by decide), H.1⟩, ec, jx_sz_e (g1 _ _) (by decide), hn, Int32.sub_zero, jx_cI_e (e2 _)]
      have hr : List.replicate l.length (Value.int 0) = mz_ar l.length (fun _ => Value.int 0) := mz_ar_rep _ _
      rw [hr]
      have e5 := mz_cp (u := u) (v := fun _ => 0) (i := 0) (j := 0) (n := l.length) (g1 (104, mz_ar l.length (fun _ => Value.int 0)) l.length) jx_add_s (show 200 ≤ h.2.1 by have := H.2; omega) (by omega) (by omega) (by omega) (by omega) (fun h5 => some (.inl (some (.ref h.2.1)), h5))
      refine ⟨_, e5, ?_, fun q hq => by rw [mz_set_n (by omega)]; exact jx_add_n (by omega), rfl⟩
      rw [mz_set_e, js_bs_ar]
      congr 2
      refine mz_ar_cong (fun i hi => ?_)
      rw [if_pos ⟨Nat.zero_le _, by omega⟩]
      show Value.int (u (i - 0 + 0)) = _
      rw [Nat.sub_zero, Nat.add_zero, hu i hi]
    obtain ⟨h', e3, k⟩ := e3
    rw [jx_cA_e e3]
    exact ⟨h', rfl, k⟩
/-- toString -/
theorem m_260 (H : hOk h) (B : bu h a b cap l) : ∃ h', jx_A 260 [.ref a] h = some (.inl (some (.ref h.2.1)), h') ∧ sI h' h.2.1 (h.2.1 + 1) l ∧ zj 5 h h' ∧ h'.2.1 = h.2.1 + 2 := by
  obtain ⟨u, ml, g1, g2, g3, g4, g5, g6, g7, g8, g9, g10, g11⟩ := B
  have k1 : ∀ q, q < h.2.1 → (jx_set (jx_add h (20, [.null, .int 0, .int 0, .int 0]) 4) h.2.1 (20, [.null, .int 0, .int 0, .int 0])).1 q = h.1 q := fun q hq => by
    rw [mz_set_n (by omega)]; exact jx_add_n (by omega)
  have k2 : ∀ q, q < h.2.1 → (jx_add h (20, [.null, .int 0, .int 0, .int 0]) 4).1 q = h.1 q := fun q hq => jx_add_n (by omega)
  have H2 : hOk (jx_set (jx_add h (20, [.null, .int 0, .int 0, .int 0]) 4) h.2.1 (20, [.null, .int 0, .int 0, .int 0])) := ⟨by show h.2.1 + 1 = h.2.2.1 + 1 + 200; have := H.1; omega, by show 711 ≤ h.2.1 + 1; have := H.2; omega⟩
  obtain ⟨h3, e1, r1, r2, r3⟩ := m_279 H2 ((k1 b g10).trans g2) g3 g11 g4 (by omega) g7 (by show b < h.2.1 + 1; omega)
  have e1 : jx_A 279 [.ref b, .int 0, .int (nI l.length)] (jx_set (jx_add h (20, [.null, .int 0, .int 0, .int 0]) 4) h.2.1 (20, [.null, .int 0, .int 0, .int 0])) = some (.inl (some (.ref (h.2.1 + 1))), h3) := e1
  have r1 : h3.1 (h.2.1 + 1) = some (js_bs l) := r1
  have r3 : h3.2 = (h.2.1 + 1 + 1, h.2.2.1 + 1 + 1, h.2.2.2 + 4 + l.length) := r3
  have r4 : h3.1 h.2.1 = some (20, [.null, .int 0, .int 0, .int 0]) := (r2 h.2.1 (Nat.lt_succ_self _)).trans mz_set_e
  have a1 := (k2 a g9).trans g1
  have e2 : jx_A 267 [.ref a] (jx_add h (20, [.null, .int 0, .int 0, .int 0]) 4) = some (.inl (some (.ref b)), jx_add h (20, [.null, .int 0, .int 0, .int 0]) 4) := by rw [a_267, jx_gA_e a1 rfl]
  have e3' : jx_A 268 [.ref a] (jx_add h (20, [.null, .int 0, .int 0, .int 0]) 4) = some (.inl (some (.int (nI l.length))), jx_add h (20, [.null, .int 0, .int 0, .int 0]) 4) := by rw [a_268, jx_gI_e a1 rfl]
  have e3 : jx_A 269 [.ref a] (jx_add h (20, [.null, .int 0, .int 0, .int 0]) 4) = some (.inl (some (.int (nI l.length))), jx_add h (20, [.null, .int 0, .int 0, .int 0]) 4) := by rw [a_269, jx_is_e a1, jx_cI_e e3']
  have e4 : jx_A 266 [.ref a] (jx_add h (20, [.null, .int 0, .int 0, .int 0]) 4) = some (.inl (some (.int 1)), jx_add h (20, [.null, .int 0, .int 0, .int 0]) 4) := by rw [a_266, jx_gI_e a1 rfl, if_pos rfl]
  have n2 : 200 ≤ h.2.1 := by have := H.2; omega
  have e5 : jx_A 275 [.ref h.2.1, .ref a, .null] (jx_add h (20, [.null, .int 0, .int 0, .int 0]) 4) = some (.inl none, jx_set h3 h.2.1 (20, [.ref (h.2.1 + 1), .int 0, .int 0, .int 0])) := by
    rw [a_275n, jx_is_e a1, jx_cA_e e2, jx_is_e a1, jx_cI_e e3, jx_is_e a1, jx_cI_e e4, if_neg (by decide), jx_pt_e jx_add_s n2 (by show 1 < 4; decide)]
    show jx_cA jx_A 279 [.ref b, .int 0, .int (nI l.length)] (jx_set (jx_add h (20, [.null, .int 0, .int 0, .int 0]) 4) h.2.1 (20, [.null, .int 0, .int 0, .int 0])) _ = _
    rw [jx_cA_e e1, jx_is_e r1, jx_pt_e r4 n2 (by show 0 < 4; decide)]
    rfl
  have e6 : jx_A 274 [.ref h.2.1, .ref a] (jx_add h (20, [.null, .int 0, .int 0, .int 0]) 4) = some (.inl none, jx_set h3 h.2.1 (20, [.ref (h.2.1 + 1), .int 0, .int 0, .int 0])) := by rw [a_274, jx_is_e jx_add_s, jx_cV_e e5]
  have e7 : jx_A 260 [.ref a] h = some (.inl (some (.ref h.2.1)), jx_set h3 h.2.1 (20, [.ref (h.2.1 + 1), .int 0, .int 0, .int 0])) := by rw [a_260, if_pos H.1, jx_is_e jx_add_s, jx_cV_e e6]
  refine ⟨_, e7, ⟨⟨_, mz_set_e⟩, by rw [mz_set_n (by omega)]; exact r1, g11, by omega⟩, ⟨fun q hq => ?_, ⟨2, by decide, ?_, ?_⟩, ?_⟩, ?_⟩
  · rw [mz_set_n (by omega), r2 q (by show q < h.2.1 + 1; omega)]; exact k1 q hq
  · show h3.2.1 = _; rw [r3]
  · show h3.2.2.1 = _; rw [r3]
  · show h3.2.2.2 ≤ _; rw [r3]; show h.2.2.2 + 4 + l.length ≤ _; omega
  · show h3.2.1 = _; rw [r3]
end BU
end JX
