/-! texts: the rows. -/
section JX
section TX
variable {xs : List Int32} {C : cl_T} {h : jx_H}
/-- a call that answers v, keeps what lies below b, and may have written -/
def tx_V (xs : List Int32) (C : cl_T) (b : Nat) (h : jx_H) (X : jx_R) (v : Value) (N : Nat) : Prop := ∃ h' o, X = some (.inl (some v), h') ∧ lo_I xs (cl_O C o) h' ∧ zb b N h h'
theorem tx_wd {b : Nat} {X : jx_R} {v : Value} {N N' : Nat} (a : tx_V xs C b h X v N) (k : N ≤ N') : tx_V xs C b h X v N' := by
  obtain ⟨h', o, e, L, z⟩ := a
  exact ⟨h', o, e, L, zb_wd z k (Nat.le_refl _)⟩
theorem tx_rt {b : Nat} {o : Nat × (Nat → Nat)} (L : lo_I xs (cl_O C o) h) (v : Value) {N : Nat} : tx_V xs C b h (some (.inl (some v), h)) v N := ⟨h, o, rfl, L, zb_wd zb_rf (Nat.zero_le _) (Nat.le_refl _)⟩
theorem tx_go {b : Nat} {X : jx_R} {v : Value} {N B : Nat} {h1 : jx_H} (z : zb b N h h1) (hB : N ≤ B) (k : tx_V xs C b h1 X v (B - N)) : tx_V xs C b h X v B := by
  obtain ⟨h', o, e, L, z2⟩ := k
  exact ⟨h', o, e, L, zb_wd (zb_tr z z2) (by omega) (Nat.le_refl _)⟩
theorem tx_cI {b m : Nat} {o : Nat × (Nat → Nat)} {as : List Value} {y : Int32} {v : Value} {N B : Nat} {f : Int32 → jx_H → jx_R} (a : lo_V xs (cl_O C o) h (jx_A m as h) (.int y) N) (hb : b ≤ h.2.1) (hB : N ≤ B) (k : ∀ h', lo_I xs (cl_O C o) h' → zz N h h' → tx_V xs C b h' (f y h') v (B - N)) : tx_V xs C b h (jx_cI jx_A m as h f) v B := by
  obtain ⟨h1, e, L, z⟩ := a
  rw [jx_cI_e e]
  exact tx_go (zb_of z hb) hB (k h1 L z)
theorem tx_lp {b : Nat} {γ : Type} (E : Nat → γ → jx_H → jx_R) (n : Nat) (N N0 : Nat) (v : Value) (I : Nat → γ → jx_H → Prop)
    (h0 : ∀ g h, I n g h → tx_V xs C b h (E n g h) v N0)
    (hs : ∀ i g h B, i < n → I i g h → (∀ g' h', I (i + 1) g' h' → tx_V xs C b h' (E (i + 1) g' h') v B) → tx_V xs C b h (E i g h) v (N + B)) :
    ∀ i g h, i ≤ n → I i g h → tx_V xs C b h (E i g h) v (n * N + N0) := by
  have key : ∀ (k i : Nat) (g : γ) (h : jx_H), i + k = n → I i g h → tx_V xs C b h (E i g h) v (k * N + N0) := by
    intro k
    induction k with
    | zero => intro i g h e hI; have : i = n := by omega
              subst this; rw [Nat.zero_mul, Nat.zero_add]; exact h0 g h hI
    | succ k ih =>
      intro i g h e hI
      refine tx_wd (hs i g h (k * N + N0) (by omega) hI (fun g' h' I' => ih (i + 1) g' h' (by omega) I')) ?_
      rw [Nat.add_mul, Nat.one_mul]; omega
  intro i g h hi hI
  refine tx_wd (key (n - i) i g h (by omega) hI) ?_
  have : (n - i) * N ≤ n * N := Nat.mul_le_mul_right _ (by omega)
  omega
/-- the string constants -/
theorem s_K (K : mz_K xs h) {s c : Nat} {l : List Nat} (h1 : jx_K0 xs s = some (20, [.ref c, .int 0])) (h2 : jx_K0 xs c = some (js_bs l)) (hs : s < 200) (hc : c < 200) (hl : ∀ x, x ∈ l → x < 128) (hn : l.length ≤ 64) : sI h s c l := ⟨⟨[], (K s hs).trans h1⟩, (K c hc).trans h2, hl, hn⟩
theorem l_157 (L : lo_I xs C h) {i : Nat} (hi : i < 8) : ∃ h', jx_A 157 [.ref 200, .int (nI i)] h = some (.inl (some (.int 8)), h') ∧ lo_I xs (cl_O C (8, fun j => mm_sg C.1 (8 * i + j))) h' ∧ mz_eq 200 711 h h' := by
  rcases c_103 L.1 L.2.1 (nI i) with ⟨i', h', h1, h2, h3, I, t⟩ | ⟨h1, -⟩
  · have e : i = i' := (nI_eq (by omega) (by omega)).mp h2
    subst e
    exact ⟨h', w_157_ok L.2.1 h3, lo_eq L t I, t⟩
  · exact absurd rfl (h1 i (by omega))
theorem l_157n (L : lo_I xs C h) {y : Int32} (hy : ∀ i, i < 8 → y ≠ nI i) : lo_V xs C h (jx_A 157 [.ref 200, .int y] h) (.int (-11)) 1 := by
  rcases c_103 L.1 L.2.1 y with ⟨i', h', h1, h2, -⟩ | ⟨-, h2⟩
  · exact absurd h2 (hy i' (by omega))
  · exact ⟨jx_thr h, w_157_eIO L.2.1 h2, lo_x L, zz_x⟩
def tx_r (M : mm_T) (i j : Nat) : List Nat := (List.range j).map (fun q => mm_sg M (8 * i + q))
theorem tx_r1 (M : mm_T) (i j : Nat) : tx_r M i (j + 1) = tx_r M i j ++ [mm_sg M (8 * i + j)] := by
  unfold tx_r
  rw [List.range_succ, List.map_append]
  rfl
theorem tx_rl (M : mm_T) (i j : Nat) : (tx_r M i j).length = j := by unfold tx_r; rw [List.length_map, List.length_range]
theorem tx_rg {M : mm_T} {i j k : Nat} (h : k < j) : (tx_r M i j).getD k 0 = mm_sg M (8 * i + k) := by
  unfold tx_r
  rw [List.getD_eq_getElem?_getD, List.getElem?_map, List.getElem?_range h]
  rfl
theorem lo_isx {b : Nat} {C' : cl_T} {X : jx_R} {v : Value} {N : Nat} (L : lo_I xs C' h) (_ : True) : tx_V xs C b h (jx_is h 200 7 X) v N ↔ tx_V xs C b h X v N := by rw [cl_I_is L.2.1]
theorem zz_0 {h' : jx_H} (t : mz_eq 200 711 h h') : zz 0 h h' := zz_eq t
theorem tx_row (D : dr_I C.1) (K : dr_K C.1) {b i : Nat} (hi : i < 8) {v : Value} {N0 : Nat} {v4 : Value} {o : Nat × (Nat → Nat)} (L : lo_I xs (cl_O C o) h) (hb : b ≤ h.2.1)
    (kk : ∀ (h : jx_H) (s : Nat) (g4 : Value) (o : Nat × (Nat → Nat)), lo_I xs (cl_O C o) h → b ≤ h.2.1 → tx_V xs C b h (jx_E 185 2 [.ref 200, .int (nI (i + 1)), .ref s, .int (nI 8), g4] [] h) v N0) :
    tx_V xs C b h (jx_E 185 14 [.ref 200, .int (nI i), .ref 30, .int (nI 0), v4] [] h) v (161 + N0) := by
  have S0 : sI h 30 70 (tx_r C.1 i 0) := s_K L.1 rfl rfl (by decide) (by decide) (fun x h => by cases h) (by rw [tx_rl]; decide)
  refine tx_wd (tx_lp (C := C) (b := b) (γ := Nat × Value) (fun j g h => jx_E 185 14 [.ref 200, .int (nI i), .ref g.1, .int (nI j), g.2] [] h) 8 20 (1 + N0) v (fun j g h => lo_I xs (cl_O C o) h ∧ b ≤ h.2.1 ∧ ∃ c, sI h g.1 c (tx_r C.1 i j) ∧ sp h.2.1 g.1 c) ?_ ?_ 0 (30, v4) h (by decide) ⟨L, hb, 70, S0, Or.inl (show 30 < 200 by decide), Or.inl (show 70 < 200 by decide)⟩) (by omega)
  · rintro ⟨s, g4⟩ h ⟨L, hb, c, S, p⟩
    show tx_V xs C b h (jx_E 185 14 _ _ _) _ _
    rw [b_185_14, if_pos (by decide)]
    obtain ⟨h1, e1, L1, t1⟩ := l_157 L hi
    have z1 := zz_0 t1
    have L1 : lo_I xs (cl_O C (8, fun j => mm_sg C.1 (8 * i + j))) h1 := L1
    have S1 := s_z S p z1
    have u1 : h1.2.1 = h.2.1 := by rw [t1.2]
    rw [jx_cI_e e1]
    refine tx_go (zb_of z1 hb) (by omega) ?_
    have ln := tx_rl C.1 i 8
    have sp1 := l_184 (C := cl_O C (8, fun j => mm_sg C.1 (8 * i + j))) L1 (ot := fun j => mm_sg C.1 (8 * i + j)) S1 (by rw [u1]; exact p) (by rw [ln]; decide) (by rw [ln]; rfl) (fun k hk => by rw [ln] at hk; rw [tx_rg hk])
    rw [ln] at sp1
    refine tx_cI sp1 (by omega) (by omega) (fun h2 L2 z2 => ?_)
    have up := zb_up (b := h1.2.1) z2
    rw [if_neg (by decide), nI_1]
    exact tx_wd (kk h2 s g4 _ L2 (by omega)) (by omega)
  · rintro j ⟨s, g4⟩ h B hj ⟨L, hb, c, S, p⟩ k2
    show tx_V xs C b h (jx_E 185 14 _ _ _) _ _
    have hc : 8 * i + j < 64 := by omega
    have d8 : (8 * i + j) / 8 = i := by omega
    have m8 : (8 * i + j) % 8 = j := by omega
    have qc : q_cell (nI i) (nI j) (some (8 * i + j)) := ⟨i, j, rfl, by omega, rfl, by omega, rfl⟩
    rw [b_185_14, if_neg (show ¬ (8 : Int32) ≤ nI j from nI_ge hj (by decide))]
    refine tx_cI (l_147 L qc) hb (by omega) (fun h5 L5 z5 => ?_)
    have u5 := zb_up (b := h.2.1) z5
    have S5 := s_z S p z5
    have p5 := sp_up p u5
    rw [if_pos L5.2.2.2, jx_is_e jx_add_s]
    obtain ⟨h7, h8, bb, cap, e1, e2, e3, B8, b8, L8, j8⟩ := t_new L5 S5 p5 (by rw [tx_rl]; omega)
    rw [jx_cV_e e1, e2, jx_cA_e e3]
    refine tx_go (zb_j L5 j8 (by omega)) (by omega) ?_
    have u8 : h5.2.1 ≤ h8.2.1 := by obtain ⟨-, ⟨k, -, e, -⟩, -⟩ := j8; omega
    -- behind the letter
    have fin : ∀ (h : jx_H) (x : Nat), lo_I xs (cl_O C o) h → h8.2.1 ≤ h.2.1 → bu h h5.2.1 bb cap (tx_r C.1 i j) → x < 128 → x = mm_sg C.1 (8 * i + j) → tx_V xs C b h (jx_is h h5.2.1 8 (jx_cA jx_A 258 [.ref h5.2.1, .int (nI x)] h (fun a13 h12 => jx_is h12 a13 8 (jx_cA jx_A 260 [.ref a13] h12 (fun a15 h14 => jx_E 185 14 [.ref 200, .int (nI i), .ref a15, .int (nI j + 1), .int (lb (cl_O C o).1 (some (8 * i + j)))] [] h14))))) v (8 + B) := by
      intro h x L uh B9 hx ex
      obtain ⟨g1, g2, s2, f1, f2, f3, S2, f4, f5, L2, y2⟩ := t_end L B9 hx (by rw [tx_rl]; omega)
      rw [bu_is B9, jx_cA_e f1, f2, jx_cA_e f3, nI_1]
      obtain ⟨u, ml, -, -, -, -, -, g6, g7, -⟩ := B9
      refine tx_go (zb_y L y2 ⟨g6, by omega⟩ ⟨g7, by omega⟩ (by omega)) (by omega) ?_
      have h7 := L.2.2.1
      exact tx_wd (k2 (s2, .int (lb (cl_O C o).1 (some (8 * i + j)))) g2 ⟨L2, by omega, s2 + 1, by rw [tx_r1, ← ex]; exact S2, Or.inr ⟨by omega, by omega⟩, Or.inr ⟨by omega, by omega⟩⟩) (by omega)
    rcases lb_neg (C := cl_O C o) D (c := some (8 * i + j)) (fun d e => by cases e; exact hc) with ⟨q1, q2⟩ | ⟨f, q1, q2, q3, q4⟩
    · rw [if_pos q1]
      have q2 : C.1.2.2.2 (8 * i + j) = none := q2
      have l170 := l_170 L8 D hc
      rw [d8, m8] at l170
      refine tx_cI l170 (by omega) (by omega) (fun h10 L10 z10 => ?_)
      have u10 := zb_up (b := h8.2.1) z10
      have B10 := bu_z B8 z10
      have sg : mm_sg C.1 (8 * i + j) = bif mm_gap C.1.2.2.2 (8 * i + j) then 43 else 46 := by unfold mm_sg; rw [q2]
      rw [bI_if]
      have e9 : (cl_O C o).1.2.2.2 = C.1.2.2.2 := rfl
      rw [e9]
      cases gp : mm_gap C.1.2.2.2 (8 * i + j) with
      | true =>
        rw [gp] at sg
        exact tx_wd (fin h10 43 L10 u10 B10 (by decide) sg.symm) (by omega)
      | false =>
        rw [gp] at sg
        exact tx_wd (fin h10 46 L10 u10 B10 (by decide) sg.symm) (by omega)
    · rw [if_neg q4]
      have q1 : C.1.2.2.2 (8 * i + j) = some f := q1
      rw [q3]
      refine (lo_isx L8 trivial).mpr (tx_cI (l_66 L8 D q2) (by omega) (by omega) (fun h10 L10 z10 => ?_))
      have u10 := zb_up (b := h8.2.1) z10
      have B10 := bu_z B8 z10
      obtain ⟨k, r1, r2, r3⟩ := q2
      have r2 : C.1.2.2.1 k = f := r2
      have c2 := K k r1
      rw [r2] at c2
      have fn := fin h10 (fg_co f) L10 u10 B10 (by omega) (by unfold mm_sg; rw [q1])
      rw [q3] at fn
      exact tx_wd fn (by omega)
end TX
end JX
