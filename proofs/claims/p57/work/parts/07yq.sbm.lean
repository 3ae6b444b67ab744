/-! Builders: append, toString. -/
section JX
section BU
variable {xs : List Int32} {h : jx_H} {a b cap : Nat} {l : List Nat}
theorem getD_l {l m : List Nat} {i : Nat} (h : i < l.length) : (l ++ m).getD i 0 = l.getD i 0 := by
  rw [List.getD_eq_getElem?_getD, List.getD_eq_getElem?_getD, List.getElem?_append_left h]
theorem getD_r {l m : List Nat} {i : Nat} (h : l.length ≤ i) : (l ++ m).getD i 0 = m.getD (i - l.length) 0 := by
  rw [List.getD_eq_getElem?_getD, List.getD_eq_getElem?_getD, List.getElem?_append_right h]
theorem m_266 (B : bu h a b cap l) : jx_A 266 [.ref a] h = some (.inl (some (.int 1)), h) := by
  obtain ⟨u, ml, h1, _⟩ := B
  rw [a_266, jx_gI_e h1 rfl, if_pos rfl]
/-- new StringBuilder() -/
theorem m_255 (H : hOk h) (h1 : h.1 a = some (8, [.null, .int 0, .int 0, .int 0])) (ha : 711 ≤ a) (hl : a < h.2.1) : ∃ h', jx_A 255 [.ref a] h = some (.inl none, h') ∧ bu h' a h.2.1 16 [] ∧ yb a a 2 h h' := by
  have e1 : jx_A 256 [.ref a, .int 16] h = some (.inl none, jx_set (jx_set (jx_add h (104, mz_ar 16 (fun _ => .int 0)) 16) a (8, [.ref h.2.1, .int 0, .int 0, .int 0])) a (8, [.ref h.2.1, .int 0, .int 0, .int 0])) := by
    rw [a_256, if_pos ⟨by decide, by decide, H.1⟩, show (104, List.replicate (16 : Int32).toNatClampNeg (Value.int 0)) = (104, mz_ar 16 (fun _ => Value.int 0)) from congrArg (Prod.mk 104) (mz_ar_rep 16 _), show (16 : Int32).toNatClampNeg = 16 from rfl, jx_is_e jx_add_s, jx_pt_e ((jx_add_n (by omega)).trans h1) (show 200 ≤ a by omega) (by show 0 < 4; decide), jx_pt_e mz_set_e (show 200 ≤ a by omega) (by show 1 < 4; decide)]
    rfl
  have e2 := a_255 a h
  rw [jx_is_e h1, jx_cV_e e1] at e2
  refine ⟨_, e2, ⟨fun _ => 0, 0, mz_set_e, by rw [mz_set_n (by omega), mz_set_n (by omega)]; exact jx_add_s, fun i hi => absurd hi (Nat.not_lt_zero _), Nat.zero_le _, Or.inl rfl, ha, H.2, by omega, Nat.lt_succ_of_lt hl, Nat.lt_succ_self _, fun x hx => by cases hx⟩, ?_⟩
  exact ⟨fun q k1 k2 _ => by rw [mz_set_n k2, mz_set_n k2]; exact jx_add_n (by omega), ⟨1, by decide, rfl, rfl⟩, by show h.2.2.2 + 16 ≤ _; omega⟩
theorem by_c : ∀ c, c < 128 → (((nI c).toInt8.toInt32 : Int32)).toInt8.toInt32 = nI c ∧ (nI c).toInt8.toInt32 = nI c := by decide +kernel
/-- append(char) -/
theorem m_258 (H : hOk h) (B : bu h a b cap l) {c : Nat} (hc : c < 128) (hl : l.length + 1 ≤ 34) : ∃ h' b' cap', jx_A 258 [.ref a, .int (nI c)] h = some (.inl (some (.ref a)), h') ∧ bu h' a b' cap' (l ++ [c]) ∧ (b' = b ∨ h.2.1 ≤ b') ∧ yb a b 3 h h' := by
  obtain ⟨h1, b', cap', e1, B1, hq, hb, z1⟩ := m_264 H B hl
  have e2 := m_266 B1
  have e3 : jx_A 277 [.int (nI c)] h1 = some (.inl (some (.int 1)), h1) := by rw [a_277, if_neg (show ¬ (255 : Int32) < nI c from nI_nlt (a := 255) (by omega) (by decide))]
  have is0 := bu_is B
  have is1 := bu_is B1
  have up := yb_up z1
  obtain ⟨u0, m0, k1, -⟩ := B
  obtain ⟨u, ml, g1, g2, g3, g4, g5, g6, g7, g8, g9, g10, g11⟩ := B1
  have e4 : jx_A 262 [.ref a, .int (nI c)] h = some (.inl (some (.ref a)), jx_set (jx_set h1 a (8, [.ref b', .int 0, .int ml, .int (nI (l.length + 1))])) b' (104, mz_ar cap' (fun i => if i = l.length then .int (nI c) else .int (u i)))) := by
    rw [a_262, jx_gI_e k1 rfl, is0, nI_1, jx_cV_e e1, is1, jx_cI_e e2, if_neg (by decide), jx_cI_e e3, if_neg (by decide), jx_gA_e g1 rfl, jx_gI_e g1 rfl, jx_pt_e g1 (show 200 ≤ a by omega) (by show 3 < 4; decide), (by_c c hc).1, mz_st (by rw [mz_set_n (by omega)]; exact g2) (show 200 ≤ b' by omega) (show l.length < cap' by omega) (by omega), nI_1]
    rfl
  have e8 := a_258 a (nI c) h
  rw [is0, jx_cA_e e4] at e8
  refine ⟨_, b', cap', e8, ⟨fun i => if i = l.length then nI c else u i, ml, by rw [mz_set_n g8]; rw [List.length_append]; exact mz_set_e, ?_, fun i hi => ?_, by rw [List.length_append]; exact hq, g5, g6, g7, g8, g9, g10, fun x hx => ?_⟩, ?_, ?_⟩
  · rw [mz_set_e]
    congr 2
    refine mz_ar_cong (fun i _ => ?_)
    show (if i = l.length then Value.int (nI c) else .int (u i)) = .int (if i = l.length then nI c else u i)
    by_cases y : i = l.length
    · rw [if_pos y, if_pos y]
    · rw [if_neg y, if_neg y]
  · have hi : i < (l ++ [c]).length := hi
    rw [List.length_append] at hi
    have hi : i < l.length + 1 := hi
    show (if i = l.length then nI c else u i) = _
    by_cases y : i = l.length
    · rw [if_pos y, getD_r (by omega), y, Nat.sub_self]; rfl
    · rw [if_neg y, getD_l (by omega)]; exact g3 i (by omega)
  · rcases List.mem_append.mp hx with y | y
    · exact g11 x y
    · rw [List.mem_singleton.mp y]; exact hc
  · rcases hb with y | y
    · exact Or.inl y
    · exact Or.inr (by omega)
  · refine yb_tr (N := 3) (N' := 0) z1 (b' := b') ?_ (by rcases hb with y | y <;> omega)
    exact ⟨fun q k1 k2 k3 => by rw [mz_set_n k3, mz_set_n k2], ⟨0, Nat.le_refl _, rfl, rfl⟩, Nat.le_refl _⟩
/-- append(String) -/
theorem m_257 (H : hOk h) (B : bu h a b cap l) {s c : Nat} {m : List Nat} (S : sI h s c m) (es : s < h.2.1 ∧ s ≠ a ∧ s ≠ b) (ec : c < h.2.1 ∧ c ≠ a ∧ c ≠ b) (hl : l.length + m.length ≤ 34) : ∃ h' b' cap', jx_A 257 [.ref a, .ref s] h = some (.inl (some (.ref a)), h') ∧ bu h' a b' cap' (l ++ m) ∧ (b' = b ∨ h.2.1 ≤ b') ∧ yb a b 3 h h' := by
  obtain ⟨h1, b', cap', e1, B1, hq, hb, z1⟩ := m_264 H B hl
  have S1 := s_y S z1 es ec
  have up := yb_up z1
  have is0 := bu_is B
  have is1 := bu_is B1
  have sis := s_is S
  have e2 := s_248 S
  have e3 := s_250 S1
  have sis1 := s_is S1
  obtain ⟨u0, m0, k1, -⟩ := B
  obtain ⟨u, ml, g1, g2, g3, g4, g5, g6, g7, g8, g9, g10, g11⟩ := B1
  obtain ⟨⟨fs, s1⟩, s2, s3, s4⟩ := S1
  have cb : c ≠ b' := by rcases hb with y | y <;> omega
  have e4 : jx_A 270 [.ref a, .ref s] h1 = some (.inl none, h1) := by rw [a_270, jx_gI_e g1 rfl, sis1, jx_cI_e e3, if_pos rfl]
  have e5 : jx_A 276 [.ref s, .ref b', .int (nI l.length), .int 0] h1 = some (.inl none, jx_set h1 b' (104, mz_ar cap' (fun q => .int (if l.length ≤ q ∧ q < l.length + m.length then nI (m.getD (q - l.length + 0) 0) else u q)))) := by
    rw [a_276, sis1, jx_cI_e e3, if_pos rfl, jx_gA_e s1 rfl, jx_gA_e s1 rfl, jx_sz_e s2 (by decide), sb_shl0]
    show jx_cp h1 c b' 104 (nI 0) (nI l.length) (nI (m.map fun n => Value.int (nI n)).length) _ = _
    rw [List.length_map]
    rw [js_bs_ar] at s2
    exact mz_cp s2 g2 (show 200 ≤ b' by omega) (by omega) (by omega) (by omega) (by omega) (fun h9 => some (.inl none, h9))
  have e6 : jx_A 271 [.ref a, .int (nI l.length), .ref s] h1 = some (.inl none, jx_set h1 b' (104, mz_ar cap' (fun q => .int (if l.length ≤ q ∧ q < l.length + m.length then nI (m.getD (q - l.length + 0) 0) else u q)))) := by
    rw [a_271, is1, jx_cV_e e4, jx_gA_e g1 rfl, jx_gI_e g1 rfl, sis1, jx_cV_e e5]
  have e7 : jx_A 261 [.ref a, .ref s] h = some (.inl (some (.ref a)), jx_set (jx_set h1 b' (104, mz_ar cap' (fun q => .int (if l.length ≤ q ∧ q < l.length + m.length then nI (m.getD (q - l.length + 0) 0) else u q)))) a (8, [.ref b', .int 0, .int ml, .int (nI (l.length + m.length))])) := by
    have g1' : (jx_set h1 b' (104, mz_ar cap' (fun q => .int (if l.length ≤ q ∧ q < l.length + m.length then nI (m.getD (q - l.length + 0) 0) else u q)))).1 a = some (8, [.ref b', .int 0, .int ml, .int (nI l.length)]) := by rw [mz_set_n g8]; exact g1
    rw [a_261, sis, jx_cI_e e2, jx_gI_e k1 rfl, is0, nI_add, jx_cV_e e1, jx_gI_e g1 rfl, is1, jx_cV_e e6, jx_gI_e g1' rfl, jx_pt_e g1' (show 200 ≤ a by omega) (by show 3 < 4; decide), nI_add]
    rfl
  have e8 := a_257 a s h
  rw [is0, jx_cA_e e7] at e8
  refine ⟨_, b', cap', e8, ⟨fun q => if l.length ≤ q ∧ q < l.length + m.length then nI (m.getD (q - l.length + 0) 0) else u q, ml, by rw [List.length_append]; exact mz_set_e, by rw [mz_set_n (by omega)]; exact mz_set_e, fun i hi => ?_, by rw [List.length_append]; exact hq, g5, g6, g7, g8, g9, g10, fun x hx => ?_⟩, ?_, ?_⟩
  · rw [List.length_append] at hi
    show (if l.length ≤ i ∧ i < l.length + m.length then nI (m.getD (i - l.length + 0) 0) else u i) = _
    by_cases y : i < l.length
    · rw [if_neg (by omega), getD_l y]; exact g3 i y
    · rw [if_pos ⟨by omega, hi⟩, getD_r (by omega)]; rfl
  · rcases List.mem_append.mp hx with y | y
    · exact g11 x y
    · exact s3 x y
  · rcases hb with y | y
    · exact Or.inl y
    · exact Or.inr (by omega)
  · refine yb_tr (N := 3) (N' := 0) z1 (b' := b') ?_ (by rcases hb with y | y <;> omega)
    exact ⟨fun q k1 k2 k3 => by rw [mz_set_n k2, mz_set_n k3], ⟨0, Nat.le_refl _, rfl, rfl⟩, Nat.le_refl _⟩
end BU
end JX
