/-! Strings and their builders, on my machine: the JDK's own methods. -/
section JX
/-- a string s of the letters l, its bytes at b -/
def sI (h : jx_H) (s b : Nat) (l : List Nat) : Prop := (∃ fs, h.1 s = some (20, .ref b :: .int 0 :: fs)) ∧ h.1 b = some (js_bs l) ∧ (∀ x, x ∈ l → x < 128) ∧ l.length ≤ 64
theorem js_bs_ar (l : List Nat) : js_bs l = (104, mz_ar l.length (fun i => .int (nI (l.getD i 0)))) := by
  unfold js_bs
  congr 1
  refine mz_ar_ext (by rw [List.length_map]) (fun i hi => ?_)
  rw [List.getElem?_map, List.getD_eq_getElem?_getD, List.getElem?_eq_getElem hi]
  rfl
section SI
variable {h : jx_H} {s b : Nat} {l : List Nat}
theorem s_is (S : sI h s b l) (F : jx_R) : jx_is h s 20 F = F := by obtain ⟨⟨fs, h1⟩, _⟩ := S; exact jx_is_e h1 F
theorem s_250 (S : sI h s b l) : jx_A 250 [.ref s] h = some (.inl (some (.int 0)), h) := by
  obtain ⟨⟨fs, h1⟩, _⟩ := S
  rw [a_250, jx_gI_e h1 rfl, if_pos (by decide)]
theorem s_248 (S : sI h s b l) : jx_A 248 [.ref s] h = some (.inl (some (.int (nI l.length))), h) := by
  have e := s_250 S
  obtain ⟨⟨fs, h1⟩, h2, h3, h4⟩ := S
  rw [a_248, jx_gA_e h1 rfl, jx_sz_e h2 (by decide), jx_is_e h1, jx_cI_e e, sb_shr0]
  show (some (.inl (some (.int (nI (l.map fun n => Value.int (nI n)).length))), h) : jx_R) = _
  rw [List.length_map]
theorem s_249 (S : sI h s b l) {k : Nat} (hk : k < l.length) : jx_A 249 [.ref s, .int (nI k)] h = some (.inl (some (.int (nI (l.getD k 0)))), h) := by
  obtain ⟨⟨fs, h1⟩, h2, h3, h4⟩ := S
  have ek : l[k]? = some (l.getD k 0) := by rw [List.getD_eq_getElem?_getD, List.getElem?_eq_getElem hk]; rfl
  have hx := st_ch (l.getD k 0) (h3 _ (List.mem_of_getElem? ek))
  have e1 : jx_A 251 [.ref s] h = some (.inl (some (.int 1)), h) := by rw [a_251, jx_gI_e h1 rfl, if_pos rfl]
  have e2 : jx_A 254 [.int (nI k), .int (nI l.length), jx_j] h = some (.inl (some (.int (nI k))), h) := by rw [a_254, if_neg (nI_pos (by omega)), if_pos (nI_lt hk (by omega))]
  have e3 : jx_A 252 [.int (nI k), .int (nI l.length)] h = some (.inl none, h) := by rw [a_252, jx_cI_e e2]
  have e4 : jx_A 253 [.ref b, .int (nI k)] h = some (.inl (some (.int (nI (l.getD k 0)))), h) := by
    rw [a_253, jx_sz_e h2 (by decide)]
    show jx_cV jx_A 252 [.int (nI k), .int (nI (l.map fun n => Value.int (nI n)).length)] h _ = _
    rw [List.length_map, jx_cV_e e3, jx_lI_e h2 (nI_pos' (by omega)) (x := nI (l.getD k 0)) (by rw [nI_clamp (by omega), List.getElem?_map, ek]; rfl), hx.1, if_pos hx.2]
  rw [a_249, jx_is_e h1, jx_cI_e e1, if_neg (by decide), jx_gA_e h1 rfl, jx_cI_e e4, if_pos hx.2]
end SI
/-- a builder at a, its bytes at b, the letters l so far -/
def bu (h : jx_H) (a b cap : Nat) (l : List Nat) : Prop := ∃ (u : Nat → Int32) (ml : Int32), h.1 a = some (8, [.ref b, .int 0, .int ml, .int (nI l.length)]) ∧ h.1 b = some (104, mz_ar cap (fun i => .int (u i))) ∧ (∀ i, i < l.length → u i = nI (l.getD i 0)) ∧ l.length ≤ cap ∧ (cap = 16 ∨ cap = 34) ∧ 711 ≤ a ∧ 711 ≤ b ∧ a ≠ b ∧ a < h.2.1 ∧ b < h.2.1 ∧ ∀ x, x ∈ l → x < 128
/-- only a builder's two cells have changed, and so much is new -/
def yb (a b N : Nat) (h h' : jx_H) : Prop := (∀ q, q < h.2.1 → q ≠ a → q ≠ b → h'.1 q = h.1 q) ∧ (∃ k, k ≤ N ∧ h'.2.1 = h.2.1 + k ∧ h'.2.2.1 = h.2.2.1 + k) ∧ h'.2.2.2 ≤ h.2.2.2 + 12 * N
theorem yb_rf {a b : Nat} {h : jx_H} : yb a b 0 h h := ⟨fun _ _ _ _ => rfl, ⟨0, Nat.le_refl _, rfl, rfl⟩, Nat.le_refl _⟩
theorem yb_up {a b N : Nat} {h h' : jx_H} (z : yb a b N h h') : h.2.1 ≤ h'.2.1 := by
  obtain ⟨-, ⟨k, -, e, -⟩, -⟩ := z
  omega
theorem yb_wd {a b N N' : Nat} {h h' : jx_H} (z : yb a b N h h') (k : N ≤ N') : yb a b N' h h' := by
  obtain ⟨z1, ⟨n, z2, z3⟩, z4⟩ := z
  exact ⟨z1, ⟨n, by omega, z3⟩, by omega⟩
theorem yb_tr {a b b' N N' : Nat} {h h' h'' : jx_H} (z : yb a b N h h') (w : yb a b' N' h' h'') (e : b' = b ∨ h.2.1 ≤ b') : yb a b (N + N') h h'' := by
  have up := yb_up z
  obtain ⟨z1, ⟨n, z2, z3, z4⟩, z5⟩ := z
  obtain ⟨w1, ⟨m, w2, w3, w4⟩, w5⟩ := w
  exact ⟨fun q h1 h2 h3 => (w1 q (by omega) h2 (by omega)).trans (z1 q h1 h2 h3), ⟨n + m, by omega, by omega, by omega⟩, by omega⟩
theorem yb_set {a b A : Nat} {h : jx_H} {o : jx_Ob} (e : A = a ∨ A = b) : yb a b 0 h (jx_set h A o) := ⟨fun q h1 h2 h3 => mz_set_n (by omega), ⟨0, Nat.le_refl _, rfl, rfl⟩, Nat.le_refl _⟩
theorem jx_add_s {h : jx_H} {o : jx_Ob} {n : Nat} : (jx_add h o n).1 h.2.1 = some o := by
  show (bif h.2.1 == h.2.1 then some o else _) = _
  rw [beq_self_eq_true]; rfl
theorem jx_add_n {h : jx_H} {o : jx_Ob} {n q : Nat} (e : q ≠ h.2.1) : (jx_add h o n).1 q = h.1 q := by
  show (bif q == h.2.1 then some o else h.1 q) = _
  rw [beq_eq_false_iff_ne.mpr e]; rfl
theorem yb_add {a b n N : Nat} {h : jx_H} {o : jx_Ob} (h1 : 1 ≤ N) (hn : n ≤ 12 * N) : yb a b N h (jx_add h o n) := ⟨fun q h2 _ _ => jx_add_n (by omega), ⟨1, h1, rfl, rfl⟩, by show h.2.2.2 + n ≤ _; omega⟩
def hOk (h : jx_H) : Prop := h.2.1 = h.2.2.1 + 200 ∧ 711 ≤ h.2.1
theorem hOk_y {a b N : Nat} {h h' : jx_H} (H : hOk h) (z : yb a b N h h') : hOk h' := by
  obtain ⟨-, ⟨k, -, e1, e2⟩, -⟩ := z
  have := H.1
  have := H.2
  exact ⟨by omega, by omega⟩
theorem s_y {a b N : Nat} {h h' : jx_H} {s c : Nat} {l : List Nat} (S : sI h s c l) (z : yb a b N h h') (e : s < h.2.1 ∧ s ≠ a ∧ s ≠ b) (e2 : c < h.2.1 ∧ c ≠ a ∧ c ≠ b) : sI h' s c l := by
  obtain ⟨⟨fs, h1⟩, h2, h3⟩ := S
  exact ⟨⟨fs, (z.1 s e.1 e.2.1 e.2.2).trans h1⟩, (z.1 c e2.1 e2.2.1 e2.2.2).trans h2, h3⟩
section BU
variable {h : jx_H} {a b cap : Nat} {l : List Nat}
theorem bu_is (B : bu h a b cap l) (F : jx_R) : jx_is h a 8 F = F := by obtain ⟨u, ml, h1, _⟩ := B; exact jx_is_e h1 F
theorem ec_1 : ∀ q, q < 35 → 16 < q → ((nI q - 16) ≤ 0) = False ∧ (nI q - 16 < 18 ∨ nI q - 16 = 18) := by decide +kernel
/-- room for q letters -/
theorem m_264 (H : hOk h) (B : bu h a b cap l) {q : Nat} (hq : q ≤ 34) : ∃ h' b' cap', jx_A 264 [.ref a, .int (nI q)] h = some (.inl none, h') ∧ bu h' a b' cap' l ∧ q ≤ cap' ∧ (b' = b ∨ b' = h.2.1) ∧ yb a b 3 h h' := by
  obtain ⟨u, ml, h1, h2, h3, h4, h5, h6, h7, h8, h9, h10, h11⟩ := B
  have hl : (mz_ar cap (fun i => Value.int (u i))).length = cap := mz_ar_len _ _
  rw [a_264, jx_gA_e h1 rfl, jx_sz_e h2 (by decide), jx_gI_e h1 rfl, hl, sb_shr0]
  by_cases z : q ≤ cap
  · have le : nI q - nI cap ≤ 0 := by
      have : ∀ c, c < 35 → ∀ q, q < 35 → q ≤ c → nI q - nI c ≤ 0 := by decide +kernel
      exact this cap (by omega) q (by omega) z
    rw [if_pos le]
    exact ⟨h, b, cap, rfl, ⟨u, ml, h1, h2, h3, h4, h5, h6, h7, h8, h9, h10, h11⟩, z, Or.inl rfl, yb_wd yb_rf (by decide)⟩
  · have c16 : cap = 16 := by omega
    subst c16
    have nle : ¬ nI q - nI 16 ≤ 0 := by
      have : ∀ q, q < 35 → 16 < q → ¬ nI q - nI 16 ≤ 0 := by decide +kernel
      exact this q (by omega) (by omega)
    rw [if_neg nle, jx_gA_e h1 rfl, jx_is_e h1]
    have e1 : jx_A 282 [.int (nI 16), .int (nI q - nI 16), .int (nI 16 + 2)] h = some (.inl (some (.int 34)), h) := by
      have e0 : jx_A 246 [.int (nI q - nI 16), .int (nI 16 + 2)] h = some (.inl (some (.int 18)), h) := by
        rw [a_246]
        have : ∀ q, q < 35 → 16 < q → nI q - nI 16 < nI 16 + 2 ∨ nI q - nI 16 = 18 := by decide +kernel
        rcases this q (by omega) (by omega) with z | z
        · rw [if_pos z]; rfl
        · rw [z, if_neg (by decide)]
      rw [a_282, jx_cI_e e0, if_neg (by decide), if_neg (by decide)]
      rfl
    have e2 : jx_A 265 [.ref a, .int (nI q)] h = some (.inl (some (.int 34)), h) := by
      rw [a_265, jx_gA_e h1 rfl, jx_sz_e h2 (by decide), jx_gI_e h1 rfl, jx_gI_e h1 rfl, hl, sb_shl0, sb_shl0, jx_cI_e e1, if_neg (by decide), jx_gI_e h1 rfl]
      rfl
    rw [jx_cI_e e2, jx_gI_e h1 rfl]
    have hn : h.2.1 ≠ b := by omega
    have hn2 : h.2.1 ≠ a := by omega
    have e3 : ∃ h3, jx_A 278 [.ref b, .int 34] h = some (.inl (some (.ref h.2.1)), h3) ∧ h3.1 h.2.1 = some (104, mz_ar 34 (fun i => .int (if i < 16 then u i else 0))) ∧ yb a b 3 h h3 ∧ h3.2.1 = h.2.1 + 1 ∧ h3.1 a = h.1 a := by
      rw [a_278, jx_sz_e h2 (by decide), hl, if_neg (by decide), if_pos ⟨by decide, by decide, H.1⟩]
      rw [show (104, List.replicate (34 : Int32).toNatClampNeg (Value.int 0)) = (104, mz_ar 34 (fun _ => Value.int 0)) from congrArg (Prod.mk 104) (mz_ar_rep 34 _), show (34 : Int32).toNatClampNeg = 34 from rfl]
      have g2 : (jx_add h (104, mz_ar 34 (fun _ => Value.int 0)) 34).1 b = some (104, mz_ar 16 (fun i => .int (u i))) := (jx_add_n (by omega)).trans h2
      have e4 : ∀ h, jx_A 247 [.int (nI 16), .int 34] h = some (.inl (some (.int (nI 16))), h) := fun h => by rw [a_247, if_neg (by decide)]
      rw [jx_sz_e g2 (by decide), hl, jx_cI_e (e4 _)]
      have e5 := mz_cp (u := u) (v := fun _ => 0) (i := 0) (j := 0) (n := 16) g2 jx_add_s (show 200 ≤ h.2.1 by have := H.2; omega) (by decide) (by decide) (by decide) (by decide) (fun h5 => some (.inl (some (.ref h.2.1)), h5))
      refine ⟨_, e5, ?_, ?_, rfl, ?_⟩
      · rw [mz_set_e]
        congr 2
      · exact ⟨fun q h1 h2 h3 => by rw [mz_set_n (by omega)]; exact jx_add_n (by omega), ⟨1, by decide, rfl, rfl⟩, by show h.2.2.2 + 34 ≤ h.2.2.2 + 36; omega⟩
      · rw [mz_set_n (by omega)]; exact jx_add_n (by omega)
    obtain ⟨h3', e3, k1, k2, k3, k4⟩ := e3
    rw [show (34 : Int32) <<< ((0 : Int32) &&& 31) = 34 by decide, jx_cA_e e3, jx_is_e k1, jx_pt_e (k4.trans h1) (show 200 ≤ a by omega) (by show 0 < 4; decide)]
    refine ⟨_, h.2.1, 34, rfl, ⟨fun i => if i < 16 then u i else 0, ml, mz_set_e, by rw [mz_set_n hn2]; exact k1, fun i hi => ?_, by omega, Or.inr rfl, h6, H.2, fun e => hn2 e.symm, ?_, ?_, h11⟩, by omega, Or.inr rfl, yb_tr (N := 3) (N' := 0) k2 (yb_set (b := b) (Or.inl rfl)) (Or.inl rfl)⟩
    · show (if i < 16 then u i else 0) = _
      rw [if_pos (by omega)]; exact h3 i hi
    · show a < h3'.2.1; omega
    · show h.2.1 < h3'.2.1; omega
end BU
end JX
