/-! Texts: a step of the law that joins strings; spells. -/
section JX
section TX
variable {xs : List Int32} {C : cl_T} {h : jx_H}
theorem hOk_l (L : lo_I xs C h) : hOk h := ⟨L.2.2.2, L.2.2.1⟩
theorem lo_y {a b N : Nat} {h' : jx_H} (L : lo_I xs C h) (z : yb a b N h h') (ha : 711 ≤ a) (hb : 711 ≤ b) : lo_I xs C h' := by
  have h7 := L.2.2.1
  have H := hOk_y (hOk_l L) z
  exact ⟨mz_K_y L.1 (hOk_l L) z ha hb, cl_I_ag L.2.1 (fun q _ h2 => z.1 q (by omega) (by omega) (by omega)), H.2, H.1⟩
theorem zb_y {a b c N : Nat} {h' : jx_H} (L : lo_I xs C h) (z : yb a b N h h') (ha : 711 ≤ a ∧ c ≤ a) (hb : 711 ≤ b ∧ c ≤ b) (hc : c ≤ h.2.1) : zb c N h h' := by
  have h7 := L.2.2.1
  exact ⟨fun q hq => z.1 q (by omega) (by omega) (by omega), z.2⟩
theorem zj_tr {N N' : Nat} {h h' h'' : jx_H} (a : zj N h h') (k : zj N' h' h'') : zj (N + N') h h'' := by
  obtain ⟨a1, ⟨l, a2, a3, a4⟩, a5⟩ := a
  obtain ⟨b1, ⟨m, b2, b3, b4⟩, b5⟩ := k
  exact ⟨fun q hq => (b1 q (by omega)).trans (a1 q hq), ⟨l + m, by omega, by omega, by omega⟩, by omega⟩
theorem zj_wd {N N' : Nat} {h h' : jx_H} (a : zj N h h') (k : N ≤ N') : zj N' h h' := by
  obtain ⟨a1, ⟨l, a2, a3⟩, a5⟩ := a
  exact ⟨a1, ⟨l, by omega, a3⟩, by omega⟩
/-- changes of a builder that is new leave all that was there -/
theorem zj_yb {a b M N : Nat} {h h' h'' : jx_H} (z : zj M h h') (w : yb a b N h' h'') (ha : h.2.1 ≤ a) (hb : h.2.1 ≤ b) : zj (M + N) h h'' := by
  obtain ⟨a1, ⟨l, a2, a3, a4⟩, a5⟩ := z
  obtain ⟨b1, ⟨m, b2, b3, b4⟩, b5⟩ := w
  exact ⟨fun q hq => (b1 q (by omega) (by omega) (by omega)).trans (a1 q hq), ⟨l + m, by omega, by omega, by omega⟩, by omega⟩
theorem lo_j {N : Nat} {h' : jx_H} (L : lo_I xs C h) (z : zj N h h') : lo_I xs C h' := lo_y (a := 711) (b := 711) L (zj_y 711 711 z) (by decide) (by decide)
theorem zb_j {c N : Nat} {h' : jx_H} (L : lo_I xs C h) (z : zj N h h') (hc : c ≤ h.2.1) : zb c N h h' := by
  have h7 := L.2.2.1
  exact ⟨fun q hq => z.1 q (by omega), z.2⟩
theorem bu_z {a b cap N : Nat} {l : List Nat} {h' : jx_H} (B : bu h a b cap l) (z : zz N h h') : bu h' a b cap l := by
  obtain ⟨u, ml, g1, g2, g3, g4, g5, g6, g7, g8, g9, g10, g11⟩ := B
  have up := zb_up (b := h.2.1) z
  exact ⟨u, ml, (z.1 a (Or.inr ⟨g6, g9⟩)).trans g1, (z.1 b (Or.inr ⟨g7, g10⟩)).trans g2, g3, g4, g5, g6, g7, g8, by omega, by omega, g11⟩
/-- where a string lies -/
def sp (n s c : Nat) : Prop := (s < 200 ∨ (711 ≤ s ∧ s < n)) ∧ (c < 200 ∨ (711 ≤ c ∧ c < n))
theorem s_z {s c N : Nat} {l : List Nat} {h' : jx_H} (S : sI h s c l) (p : sp h.2.1 s c) (z : zz N h h') : sI h' s c l := by
  obtain ⟨⟨fs, h1⟩, h2, h3⟩ := S
  exact ⟨⟨fs, (z.1 s p.1).trans h1⟩, (z.1 c p.2).trans h2, h3⟩
theorem s_j {s c N : Nat} {l : List Nat} {h' : jx_H} (L : lo_I xs C h) (S : sI h s c l) (p : sp h.2.1 s c) (z : zj N h h') : sI h' s c l := by
  have h7 := L.2.2.1
  obtain ⟨⟨fs, h1⟩, h2, h3⟩ := S
  have p1 := p.1
  have p2 := p.2
  exact ⟨⟨fs, (z.1 s (by omega)).trans h1⟩, (z.1 c (by omega)).trans h2, h3⟩
theorem sp_up {n m s c : Nat} (p : sp n s c) (h : n ≤ m) : sp m s c := by
  obtain ⟨p1, p2⟩ := p
  exact ⟨by omega, by omega⟩
/-- a new builder that takes a text over -/
theorem t_new (L : lo_I xs C h) {s c : Nat} {l : List Nat} (S : sI h s c l) (p : sp h.2.1 s c) (hl : l.length ≤ 34) : ∃ h7 h8 b cap, jx_A 255 [.ref h.2.1] (jx_add h (8, [.null, .int 0, .int 0, .int 0]) 4) = some (.inl none, h7) ∧ (∀ F, jx_is h7 h.2.1 8 F = F) ∧ jx_A 257 [.ref h.2.1, .ref s] h7 = some (.inl (some (.ref h.2.1)), h8) ∧ bu h8 h.2.1 b cap l ∧ h.2.1 ≤ b ∧ lo_I xs C h8 ∧ zj 6 h h8 := by
  have h7 := L.2.2.1
  have L1 : lo_I xs C (jx_add h (8, [.null, .int 0, .int 0, .int 0]) 4) := lo_add L
  have z1 : zj 1 h (jx_add h (8, [.null, .int 0, .int 0, .int 0]) 4) := ⟨fun q hq => jx_add_n (by omega), ⟨1, by decide, rfl, rfl⟩, by show h.2.2.2 + 4 ≤ _; omega⟩
  obtain ⟨h2, e1, B1, y1⟩ := m_255 (hOk_l L1) (a := h.2.1) jx_add_s h7 (Nat.lt_succ_self _)
  have y1' : zj 3 h h2 := zj_yb z1 y1 (Nat.le_refl _) (Nat.le_refl _)
  have L2 := lo_j L y1'
  have S2 := s_j L S p y1'
  have up := y1'.2.1
  have n1 : (jx_add h (8, [.null, .int 0, .int 0, .int 0]) 4).2.1 = h.2.1 + 1 := rfl
  have p1 := p.1
  have p2 := p.2
  rw [n1] at B1
  obtain ⟨h3, b, cap, e2, B2, hb, y2⟩ := m_257 (hOk_l L2) B1 S2 (by obtain ⟨k, -, e, -⟩ := up; omega) (by obtain ⟨k, -, e, -⟩ := up; omega) (by show 0 + _ ≤ 34; omega)
  have y2' := zj_yb y1' y2 (Nat.le_refl _) (by omega)
  exact ⟨h2, h3, b, cap, e1, bu_is B1, e2, B2, by obtain ⟨k, -, e, -⟩ := up; omega, lo_j L y2', y2'⟩
/-- a letter more, and the string of it -/
theorem t_end (L : lo_I xs C h) {a b cap x : Nat} {l : List Nat} (B : bu h a b cap l) (hx : x < 128) (hl : l.length + 1 ≤ 34) : ∃ (h1 h2 : jx_H) (s : Nat), jx_A 258 [.ref a, .int (nI x)] h = some (.inl (some (.ref a)), h1) ∧ (∀ F, jx_is h1 a 8 F = F) ∧ jx_A 260 [.ref a] h1 = some (.inl (some (.ref s)), h2) ∧ sI h2 s (s + 1) (l ++ [x]) ∧ h.2.1 ≤ s ∧ s + 1 < h2.2.1 ∧ lo_I xs C h2 ∧ yb a b 8 h h2 := by
  obtain ⟨h1, b1, cap1, e1, B1, hb, y1⟩ := m_258 (hOk_l L) B hx hl
  have is1 := bu_is B1
  obtain ⟨u, ml, -, -, -, -, -, g6, g7, -⟩ := B
  obtain ⟨h2, e2, S2, z2, n2⟩ := m_260 (hOk_y (hOk_l L) y1) B1
  have up := yb_up y1
  have y2 := yb_tr y1 (zj_y a b z2) (Or.inl rfl)
  have lt : h1.2.1 + 1 < h2.2.1 := by rw [n2]; exact Nat.lt_succ_self _
  exact ⟨h1, h2, h1.2.1, e1, is1, e2, S2, up, lt, lo_y L y2 g6 g7, y2⟩
end TX
section SP
variable {xs : List Int32} {C : cl_T} {h : jx_H}
theorem q_outc {n : Nat} {ot : Nat → Nat} (hn : n ≤ 8) (e1 : C.2.2.2.2.1 = (n, ot)) {k : Nat} (hk : k < n) {o : q_O} (s : sp_outc C (nI k) o) : o = .inl (.int (nI (ot k))) := by
  rcases s with ⟨j, hj, e2, e3⟩ | ⟨hj, -⟩
  · rw [e1] at hj e3
    have hj : j < n := hj
    rw [(nI_eq (by omega) (by omega)).mp e2]
    exact e3
  · rw [e1] at hj
    exact absurd rfl (hj k hk)
theorem l_159 (L : lo_I xs C h) {n : Nat} {ot : Nat → Nat} (hn : n ≤ 8) (e1 : C.2.2.2.2.1 = (n, ot)) {k : Nat} (hk : k < n) : lo_V xs C h (jx_A 159 [.ref 200, .int (nI k)] h) (.int (nI (ot k))) 0 :=
  lo_ok L (c_105 L.2.1 (nI k)) (u := .int (nI (ot k))) (fun o s => q_outc hn e1 hk s) (fun h1 e => w_159_ok L.2.1 e)
theorem l_159n (L : lo_I xs C h) {n : Nat} {ot : Nat → Nat} (hn : n ≤ 8) (e1 : C.2.2.2.2.1 = (n, ot)) : lo_V xs C h (jx_A 159 [.ref 200, .int (nI n)] h) (.int (-11)) 1 :=
  lo_no L (c_105 L.2.1 (nI n)) (s := eIO) (fun o s => by
    rcases s with ⟨j, hj, e2, -⟩ | ⟨-, s⟩
    · rw [e1] at hj
      have hj : j < n := hj
      have := (nI_eq (by omega) (by omega)).mp e2
      omega
    · exact s) (fun h1 e => w_159_eIO L.2.1 e)
theorem l_184 (L : lo_I xs C h) {s c : Nat} {l : List Nat} {ot : Nat → Nat} (S : sI h s c l) (p : sp h.2.1 s c) (hn : l.length ≤ 8) (e1 : C.2.2.2.2.1 = (l.length, ot)) (hc : ∀ k, k < l.length → ot k = l.getD k 0) : lo_V xs C h (jx_A 184 [.ref 200, .int (nI l.length), .ref s] h) (.int 1) 1 := by
  rw [a_184, s_is S, jx_cI_e (s_248 S), if_pos rfl]
  have key := lw_lp (C := C) (xs := xs) (b := h.2.1) (γ := Unit) (fun i _ h => jx_E 184 17 [.ref 200, .int (nI l.length), .ref s, .int 1, .int (nI i)] [] h) l.length 0 1 (.int 1) (fun _ _ h' => sI h' s c l ∧ h.2.1 ≤ h'.2.1)
  refine lo_Vb (lw_wd (key (fun _ h1 R L1 => ?_) (fun i _ h1 B hi R L1 kk => ?_) 0 () h (Nat.zero_le _) ⟨S, Nat.le_refl _⟩ L) (by omega))
  · show lo_W h.2.1 xs C h1 (jx_E 184 17 _ _ _) _ _
    rw [b_184_17, s_is R.1, jx_cI_e (s_248 R.1), if_pos (nI_le (Nat.le_refl _) (by omega)), if_neg (by decide)]
    refine lw_cI (l_159n L1 hn e1) R.2 (by decide) (fun h2 L2 z2 => ?_)
    rw [if_pos rfl]
    exact lw_rt L2 _
  · show lo_W h.2.1 xs C h1 (jx_E 184 17 _ _ _) _ _
    rw [b_184_17, s_is R.1, jx_cI_e (s_248 R.1), if_neg (nI_ge hi (by omega)), if_neg (by decide)]
    refine lw_cI (l_159 L1 hn e1 hi) R.2 (by omega) (fun h2 L2 z2 => ?_)
    have S2 := s_z R.1 (sp_up p R.2) z2
    have up := zb_up (b := h1.2.1) z2
    rw [s_is S2, jx_cI_e (s_249 S2 hi), hc i hi, if_pos rfl, nI_1]
    exact lw_wd (kk () h2 ⟨S2, by have := R.2; omega⟩ L2) (by omega)
end SP
end JX
