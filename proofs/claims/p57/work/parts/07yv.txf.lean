/-! texts: the fragments. -/
section JX
/-- a fragment's letters: its colour and the first edges -/
def tx_f (f : fg_T) (j : Nat) : List Nat := [fg_co f] ++ (List.range j).map (fun s => mm_hx (fg_at f s))
theorem tx_f1 (f : fg_T) (j : Nat) : tx_f f (j + 1) = tx_f f j ++ [mm_hx (fg_at f j)] := by
  unfold tx_f
  rw [List.range_succ, List.map_append, List.append_assoc]
  rfl
theorem tx_fl (f : fg_T) (j : Nat) : (tx_f f j).length = j + 1 := by
  unfold tx_f
  rw [List.length_append, List.length_map, List.length_range]
  show 1 + j = j + 1
  omega
/-- all letters of a fragment -/
def tx_a (f : fg_T) : List Nat := tx_f f 4 ++ (match fg_ce f with | 0 => [] | c + 1 => [64] ++ dg (c / 8) ++ dg (c % 8))
theorem hx_dg {v : Nat} (h : v < 8) : dg v = [mm_hx v] := by
  rw [dg_1 (by omega)]
  unfold mm_hx
  rw [show Nat.blt v 10 = true from Nat.ble_eq_true_of_le (by omega)]
  rfl
theorem tx_a_l {f : fg_T} (h : fg_ce f ≤ 64) : (tx_a f).length = (mm_of f).1 ∧ ∀ k, k < (tx_a f).length → (mm_of f).2 k = (tx_a f).getD k 0 := by
  unfold tx_a
  cases e : fg_ce f with
  | zero =>
    have e1 : (mm_of f).1 = 5 := by
      show (bif fg_on f then 8 else 5) = 5
      unfold fg_on
      rw [e]
      rfl
    rw [e1]
    dsimp only
    rw [List.append_nil, tx_fl]
    refine ⟨rfl, fun k hk => ?_⟩
    match k, hk with
    | 0, _ => rfl
    | 1, _ => rfl
    | 2, _ => rfl
    | 3, _ => rfl
    | 4, _ => rfl
    | k + 5, h => omega
  | succ c =>
    have c64 : c < 64 := by omega
    have e1 : (mm_of f).1 = 8 := by
      show (bif fg_on f then 8 else 5) = 8
      unfold fg_on
      rw [e]
      rfl
    rw [e1]
    dsimp only
    rw [hx_dg (show c / 8 < 8 by omega), hx_dg (show c % 8 < 8 by omega)]
    refine ⟨by rw [List.length_append, tx_fl]; rfl, fun k hk => ?_⟩
    rw [List.length_append, tx_fl] at hk
    have hk : k < 8 := hk
    match k, hk with
    | 0, _ => rfl
    | 1, _ => rfl
    | 2, _ => rfl
    | 3, _ => rfl
    | 4, _ => rfl
    | 5, _ => rfl
    | 6, _ =>
      show mm_hx ((fg_ce f - 1) / 8) = mm_hx (c / 8)
      rw [e]; rfl
    | 7, _ =>
      show mm_hx ((fg_ce f - 1) % 8) = mm_hx (c % 8)
      rw [e]; rfl
    | k + 8, h => omega
theorem hx_e : ∀ v, v < 16 → ([48, 49, 50, 51, 52, 53, 54, 55, 56, 57, 97, 98, 99, 100, 101, 102] : List Nat).getD v 0 = mm_hx v ∧ mm_hx v < 128 := by decide +kernel
section TX
variable {xs : List Int32} {C : cl_T} {h : jx_H}
theorem l_158 (L : lo_I xs C h) (D : dr_I C.1) {k : Nat} (hk : k < C.1.1) : ∃ h', jx_A 158 [.ref 200, .int (nI k)] h = some (.inl (some (.int (nI (mm_of (C.1.2.2.1 k)).1))), h') ∧ lo_I xs (cl_O C (mm_of (C.1.2.2.1 k))) h' ∧ mz_eq 200 711 h h' := by
  rcases c_104 L.1 L.2.1 (nI k) with ⟨k', h', q1, h3, I, t⟩ | ⟨q1, -⟩
  · have e : k' = k := Option.some.inj (q_fd D hk q1)
    subst e
    exact ⟨h', w_158_ok L.2.1 h3, lo_eq L t I, t⟩
  · have := q_fd D hk q1
    cases this
theorem l_158n (L : lo_I xs C h) (D : dr_I C.1) {v : Int32} (hv : ∀ k, k < C.1.1 → v ≠ nI k) : lo_V xs C h (jx_A 158 [.ref 200, .int v] h) (.int (-13)) 1 := by
  rcases c_104 L.1 L.2.1 v with ⟨k', h', q1, -⟩ | ⟨-, h2⟩
  · have := q_fd0 D hv q1
    cases this
  · exact ⟨jx_thr h, w_158_eNS L.2.1 h2, lo_x L, zz_x⟩
theorem bu_j {a b cap N : Nat} {l : List Nat} {h' : jx_H} (B : bu h a b cap l) (z : zj N h h') : bu h' a b cap l := by
  obtain ⟨u, ml, g1, g2, g3, g4, g5, g6, g7, g8, g9, g10, g11⟩ := B
  obtain ⟨z1, ⟨k, -, e, -⟩, -⟩ := z
  exact ⟨u, ml, (z1 a g9).trans g1, (z1 b g10).trans g2, g3, g4, g5, g6, g7, g8, by omega, by omega, g11⟩
theorem bu_a {a b cap : Nat} {l : List Nat} (B : bu h a b cap l) : 711 ≤ a ∧ 711 ≤ b ∧ a ≠ b ∧ a < h.2.1 ∧ b < h.2.1 := by
  obtain ⟨u, ml, g1, g2, g3, g4, g5, g6, g7, g8, g9, g10, g11⟩ := B
  exact ⟨g6, g7, g8, g9, g10⟩
/-- a text behind what a builder has, and the string of all -/
theorem t_fin (L : lo_I xs C h) {a b cap s c : Nat} {l m : List Nat} (B : bu h a b cap l) (S : sI h s c m) (p : sp h.2.1 s c) (es : s ≠ a ∧ s ≠ b) (ec : c ≠ a ∧ c ≠ b) (hl : l.length + m.length ≤ 34) : ∃ (h1 h2 : jx_H) (t : Nat), jx_A 257 [.ref a, .ref s] h = some (.inl (some (.ref a)), h1) ∧ (∀ F, jx_is h1 a 8 F = F) ∧ jx_A 260 [.ref a] h1 = some (.inl (some (.ref t)), h2) ∧ sI h2 t (t + 1) (l ++ m) ∧ h.2.1 ≤ t ∧ t + 1 < h2.2.1 ∧ lo_I xs C h2 ∧ yb a b 8 h h2 := by
  have h7 := L.2.2.1
  have p1 := p.1
  have p2 := p.2
  obtain ⟨h1, b1, cap1, e1, B1, hb, y1⟩ := m_257 (hOk_l L) B S ⟨by omega, es⟩ ⟨by omega, ec⟩ hl
  have is1 := bu_is B1
  obtain ⟨g6, g7, -⟩ := bu_a B
  obtain ⟨h2, e2, S2, z2, n2⟩ := m_260 (hOk_y (hOk_l L) y1) B1
  have up := yb_up y1
  have y2 := yb_tr y1 (zj_y a b z2) (Or.inl rfl)
  have lt : h1.2.1 + 1 < h2.2.1 := by rw [n2]; exact Nat.lt_succ_self _
  exact ⟨h1, h2, h1.2.1, e1, is1, e2, S2, up, lt, lo_y L y2 g6 g7, y2⟩
/-- '@', row and column of a cell, as a string -/
theorem t_at (L : lo_I xs C h) {c : Nat} (hc : c < 64) : ∃ (h8 h9 h11 h13 h15 : jx_H) (b t : Nat), jx_A 255 [.ref h.2.1] (jx_add h (8, [.null, .int 0, .int 0, .int 0]) 4) = some (.inl none, h8) ∧ (∀ F, jx_is h8 h.2.1 8 F = F) ∧ jx_A 257 [.ref h.2.1, .ref 32] h8 = some (.inl (some (.ref h.2.1)), h9) ∧ (∀ F, jx_is h9 h.2.1 8 F = F) ∧ jx_A 259 [.ref h.2.1, .int (nI (c / 8))] h9 = some (.inl (some (.ref h.2.1)), h11) ∧ (∀ F, jx_is h11 h.2.1 8 F = F) ∧ jx_A 259 [.ref h.2.1, .int (nI (c % 8))] h11 = some (.inl (some (.ref h.2.1)), h13) ∧ (∀ F, jx_is h13 h.2.1 8 F = F) ∧ jx_A 260 [.ref h.2.1] h13 = some (.inl (some (.ref t)), h15) ∧
    sI h15 t (t + 1) ([64] ++ dg (c / 8) ++ dg (c % 8)) ∧ h.2.1 ≤ t ∧ t + 1 < h15.2.1 ∧ lo_I xs C h15 ∧ zj 17 h h15 ∧ b = t := by
  have S0 : sI h 32 72 [64] := s_K L.1 rfl rfl (by decide) (by decide) (fun x h => by rw [List.mem_singleton.mp h]; decide) (by decide)
  obtain ⟨h8, h9, b, cap, e1, e2, e3, B9, b9, L9, j9⟩ := t_new L S0 ⟨Or.inl (by decide), Or.inl (by decide)⟩ (by decide)
  have d1 := dg_len (c / 8)
  have d2 := dg_len (c % 8)
  obtain ⟨h11, b1, cap1, e4, B11, hb1, y11⟩ := m_259 L9.1 (hOk_l L9) B9 (v := c / 8) (by omega) (by show 1 + _ ≤ 34; omega)
  obtain ⟨g1, g2, -⟩ := bu_a B9
  have L11 := lo_y L9 y11 g1 g2
  have u9 : h.2.1 ≤ h9.2.1 := by obtain ⟨-, ⟨k, -, e, -⟩, -⟩ := j9; omega
  have u11 := yb_up y11
  obtain ⟨h13, b2, cap2, e5, B13, hb2, y13⟩ := m_259 L11.1 (hOk_l L11) B11 (v := c % 8) (by omega) (by rw [List.length_append]; show 1 + _ + _ ≤ 34; omega)
  obtain ⟨g3, g4, -⟩ := bu_a B11
  have L13 := lo_y L11 y13 g3 g4
  have u13 := yb_up y13
  obtain ⟨h15, e6, S15, z15, n15⟩ := m_260 (hOk_l L13) B13
  have j11 := zj_yb j9 y11 (Nat.le_refl _) b9
  have j13 := zj_yb j11 y13 (Nat.le_refl _) (by omega)
  have j15 := zj_tr j13 z15
  have lt : h13.2.1 + 1 < h15.2.1 := by rw [n15]; exact Nat.lt_succ_self _
  exact ⟨h8, h9, h11, h13, h15, h13.2.1, h13.2.1, e1, e2, e3, bu_is B9, e4, bu_is B11, e5, bu_is B13, e6, S15, by omega, lt, lo_j L j15, j15, rfl⟩
end TX
end JX
