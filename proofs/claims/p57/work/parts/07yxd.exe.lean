/-! Text commands of the law. -/
section JX
/-- what undoing sees is the same -/
def ub (C C' : cl_T) : Prop := C'.1 = C.1 ∧ C'.2.2.1 = C.2.2.1 ∧ C'.2.2.2.1 = C.2.2.2.1
theorem ub_rf {C : cl_T} : ub C C := ⟨rfl, rfl, rfl⟩
/-- a change as undoing sees it: kept, or refused with nothing changed -/
def uc_I (xs : List Int32) (C : cl_T) (h : jx_H) (X : jx_R) (B : Nat) : Prop :=
  (∃ (n : Nat) (C' : cl_T) (h' : jx_H), n < 2 ^ 30 ∧ X = some (.inl (some (.int (nI n))), h') ∧ lo_I xs C' h' ∧ C'.2.2.1 = min (C.2.2.1 + 1) 8 ∧ C'.2.2.2.1 = (cl_push C C.1).2.2.2.1 ∧ C'.2.2.2.2.2.1.1 = 0 ∧ C'.1.2.1 ≤ C.1.2.1 + 12 ∧ zz B h h') ∨
  (∃ (r : Int32) (C' : cl_T) (h' : jx_H), r < 0 ∧ X = some (.inl (some (.int r)), h') ∧ lo_I xs C' h' ∧ ub C C' ∧ C'.2.2.2.2.2.1.1 = 0 ∧ zz B h h')
section UC
variable {xs : List Int32} {C : cl_T} {h : jx_H}
theorem uc_lc {X : jx_R} {ok : mm_T → Prop} {N : Prop} (c : lc_I xs C h X ok N) (z : C.2.2.2.2.2.1.1 = 0) (ho : ∀ M', ok M' → M'.2.1 ≤ C.1.2.1 + 12) : uc_I xs C h X 1 := by
  rcases c with ⟨m, M', h', hm, o, e, L, t⟩ | ⟨r, h', -, q, e, L, t⟩
  · exact Or.inl ⟨m, _, h', hm, e, L, rfl, rfl, z, ho M' o, zz_wd t (by decide)⟩
  · refine Or.inr ⟨r, C, h', ?_, e, L, ub_rf, z, t⟩
    rcases q with rfl | rfl | rfl <;> decide
theorem cl_push_u {C C' : cl_T} (u : ub C C') : (cl_push C' C'.1).2.2.2.1 = (cl_push C C.1).2.2.2.1 := by
  unfold cl_push
  rw [u.1, u.2.2]
theorem l_161 (L : lo_I xs C h) (hx : C.1.2.1 + 13 < 2 ^ 30) : uc_I xs C h (jx_A 161 [.ref 200] h) 1 := by
  have c := c_107 L.1 L.2.1 hx
  cases e : pz_A (pz_c C.2.2.2.2.2.1.2 C.2.2.2.2.2.1.1) C.2.2.2.2.2.1.1 12 0 with
  | inl q =>
    rw [e] at c
    obtain ⟨h', x, I, t⟩ := c
    exact Or.inr ⟨-1, _, _, by decide, w_161_eIA L.2.1 x, lo_x (lo_eq L t I), ub_rf, rfl, (Nat.zero_add 1) ▸ zz_tr (zz_eq t) zz_x⟩
  | inr l =>
    rw [e] at c
    have l12 := pz_A_len _ _ _ _ _ e
    rcases c with ⟨M', h', q, x, I, t⟩ | ⟨j, h', q, x, I, t⟩
    · refine Or.inl ⟨l.length, _, h', by omega, w_161_ok L.2.1 x, lo_eq L t I, rfl, rfl, rfl, ?_, zz_wd (zz_eq t) (by decide)⟩
      have := ex_l_nx l q
      show M'.2.1 ≤ _
      omega
    · exact Or.inr ⟨-2, _, _, by decide, w_161_eUO L.2.1 x, lo_x (lo_eq L t I), ub_rf, rfl, (Nat.zero_add 1) ▸ zz_tr (zz_eq t) zz_x⟩
theorem l_166a {s c : Nat} {l : List Nat} (hl : l.length ≤ 34) {C0 : cl_T} {h0 : jx_H} (hx : C0.1.2.1 + 13 < 2 ^ 30) :
    ∀ (f i : Nat) {C : cl_T} {h : jx_H}, i + f = l.length → lo_I xs C h → sI h s c l → sp h.2.1 s c → C.2.2.2.2.2.1.1 = i → ub C0 C → zz 0 h0 h → uc_I xs C0 h0 (jx_E 166 2 [.ref 200, .ref s, .int (nI i)] [] h) 1
  | 0, i, C, h, hf, L, S, p, z, u, t => by
    have hi : i = l.length := by omega
    rw [b_166_2, s_is S, jx_cI_e (s_248 S), if_pos (nI_le (by omega) (by omega))]
    rcases l_161 L (by rw [u.1]; exact hx) with ⟨n, C', h', n30, e, L', c1, c2, c3, c4, t'⟩ | ⟨r, C', h', r0, e, L', u', c3, t'⟩
    · exact Or.inl ⟨n, C', h', n30, by rw [jx_cI_e e], L', by rw [c1, u.2.1], by rw [c2, cl_push_u u], c3, by rw [← u.1]; exact c4, zz_wd (zz_tr t t') (by decide)⟩
    · exact Or.inr ⟨r, C', h', r0, by rw [jx_cI_e e], L', ⟨u'.1.trans u.1, u'.2.1.trans u.2.1, u'.2.2.trans u.2.2⟩, c3, zz_wd (zz_tr t t') (by decide)⟩
  | f + 1, i, C, h, hf, L, S, p, z, u, t => by
    have hi : i < l.length := by omega
    have h128 : l.getD i 0 < 128 := by
      rw [List.getD_eq_getElem?_getD, List.getElem?_eq_getElem hi]
      exact S.2.2.1 _ (List.getElem_mem hi)
    rw [b_166_2, s_is S, jx_cI_e (s_248 S), if_neg (nI_ge hi (by omega)), s_is S, jx_cI_e (s_249 S hi)]
    rcases c_106 L.2.1 (v := l.getD i 0) (by omega) with ⟨q, -⟩ | ⟨-, h', e, I, t'⟩
    · omega
    · rw [z] at e I
      have z' := zz_eq t'
      have n1 : h'.2.1 = h.2.1 := by rw [t'.2]
      rw [jx_cI_e (w_160_ok L.2.1 e), nI_1, if_pos rfl]
      exact l_166a hl hx f (i + 1) (by omega) (lo_eq L t' I) (s_z S p z') (by rw [n1]; exact p) rfl u (zz_wd (zz_tr t z') (by decide))
theorem l_166 (L : lo_I xs C h) {s c : Nat} {l : List Nat} (S : sI h s c l) (p : sp h.2.1 s c) (hl : l.length ≤ 34) (z : C.2.2.2.2.2.1.1 = 0) (hx : C.1.2.1 + 13 < 2 ^ 30) : uc_I xs C h (jx_A 166 [.ref 200, .ref s] h) 1 := by
  rw [a_166]
  exact l_166a hl hx l.length 0 (by omega) L S p z ub_rf zz_rf
/-- a builder on its way -/
def bq (xs : List Int32) (C : cl_T) (h0 : jx_H) (a N : Nat) (l : List Nat) (h : jx_H) : Prop := lo_I xs C h ∧ (∃ b cap, bu h a b cap l ∧ h0.2.1 ≤ b) ∧ h0.2.1 ≤ a ∧ zj N h0 h
theorem bq_is {h0 : jx_H} {a N : Nat} {l : List Nat} (Q : bq xs C h0 a N l h) (F : jx_R) : jx_is h a 8 F = F := by
  obtain ⟨-, ⟨b, cap, B, -⟩, -⟩ := Q
  exact bu_is B F
theorem bq_s {h0 : jx_H} {a N s c : Nat} {l m : List Nat} (Q : bq xs C h0 a N l h) (h1 : jx_K0 xs s = some (20, [.ref c, .int 0])) (h2 : jx_K0 xs c = some (js_bs m)) (hs : s < 200) (hc : c < 200) (hm : ∀ x, x ∈ m → x < 128) (hl : l.length + m.length ≤ 34) :
    ∃ h', jx_A 257 [.ref a, .ref s] h = some (.inl (some (.ref a)), h') ∧ bq xs C h0 a (N + 3) (l ++ m) h' := by
  obtain ⟨L, ⟨b, cap, B, b0⟩, a0, z⟩ := Q
  have h7 := L.2.2.1
  obtain ⟨g1, g2, -⟩ := bu_a B
  obtain ⟨h', b', cap', e, B', hb, y⟩ := m_257 (hOk_l L) B (s_K L.1 h1 h2 hs hc hm (by omega)) ⟨by omega, by omega, by omega⟩ ⟨by omega, by omega, by omega⟩ hl
  have up : h0.2.1 ≤ h.2.1 := by obtain ⟨-, ⟨k, -, e, -⟩, -⟩ := z; omega
  exact ⟨h', e, lo_y L y g1 g2, ⟨b', cap', B', by omega⟩, a0, zj_yb z y a0 b0⟩
theorem bq_n {h0 : jx_H} {a N v : Nat} {l : List Nat} (Q : bq xs C h0 a N l h) (hv : v < 100) (hl : l.length + (dg v).length ≤ 34) :
    ∃ h', jx_A 259 [.ref a, .int (nI v)] h = some (.inl (some (.ref a)), h') ∧ bq xs C h0 a (N + 3) (l ++ dg v) h' := by
  obtain ⟨L, ⟨b, cap, B, b0⟩, a0, z⟩ := Q
  obtain ⟨g1, g2, -⟩ := bu_a B
  obtain ⟨h', b', cap', e, B', hb, y⟩ := m_259 L.1 (hOk_l L) B hv hl
  have up : h0.2.1 ≤ h.2.1 := by obtain ⟨-, ⟨k, -, e, -⟩, -⟩ := z; omega
  exact ⟨h', e, lo_y L y g1 g2, ⟨b', cap', B', by omega⟩, a0, zj_yb z y a0 b0⟩
theorem bq_e {h0 : jx_H} {a N : Nat} {l : List Nat} (Q : bq xs C h0 a N l h) : ∃ (h' : jx_H) (t : Nat), jx_A 260 [.ref a] h = some (.inl (some (.ref t)), h') ∧ sI h' t (t + 1) l ∧ sp h'.2.1 t (t + 1) ∧ lo_I xs C h' ∧ zj (N + 5) h0 h' := by
  obtain ⟨L, ⟨b, cap, B, b0⟩, a0, z⟩ := Q
  have h7 := L.2.2.1
  obtain ⟨h', e, S, y, n⟩ := m_260 (hOk_l L) B
  have lt : h.2.1 + 1 < h'.2.1 := by rw [n]; exact Nat.lt_succ_self _
  exact ⟨h', h.2.1, e, S, ⟨Or.inr ⟨h7, by omega⟩, Or.inr ⟨by omega, lt⟩⟩, lo_j L y, zj_tr z y⟩
end UC
end JX
