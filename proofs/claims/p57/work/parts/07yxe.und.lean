/-! Undoing: one change. -/
section JX
section UN
variable {xs : List Int32} {C : cl_T} {h : jx_H}
theorem uc_wd {X : jx_R} {B B' : Nat} (c : uc_I xs C h X B) (k : B ≤ B') : uc_I xs C h X B' := by
  rcases c with ⟨n, C', h', n30, e, L', c1, c2, c3, c4, t'⟩ | ⟨r, C', h', r0, e, L', u', c3, t'⟩
  · exact Or.inl ⟨n, C', h', n30, e, L', c1, c2, c3, c4, zz_wd t' k⟩
  · exact Or.inr ⟨r, C', h', r0, e, L', u', c3, zz_wd t' k⟩
theorem uc_tr {X : jx_R} {B N : Nat} {h1 : jx_H} (z : zz N h h1) (c : uc_I xs C h1 X B) : uc_I xs C h X (N + B) := by
  rcases c with ⟨n, C', h', n30, e, L', c1, c2, c3, c4, t'⟩ | ⟨r, C', h', r0, e, L', u', c3, t'⟩
  · exact Or.inl ⟨n, C', h', n30, e, L', c1, c2, c3, c4, zz_tr z t'⟩
  · exact Or.inr ⟨r, C', h', r0, e, L', u', c3, zz_tr z t'⟩
/-- a part of the law that asks for one change -/
def un_Y (xs : List Int32) (C : cl_T) (h : jx_H) (F : Int32 → jx_H → jx_R) (X : jx_R) : Prop := ∃ Y, uc_I xs C h Y 60 ∧ ∀ (y : Int32) (h' : jx_H), Y = some (.inl (some (.int y)), h') → X = F y h'
theorem un_y {F : Int32 → jx_H → jx_R} {m : Nat} {as : List Value} (c : uc_I xs C h (jx_A m as h) 1) : un_Y xs C h F (jx_cI jx_A m as h F) := ⟨_, uc_wd c (by decide), fun y h' e => jx_cI_e e F⟩
theorem add_nx {M M' : mm_T} {c n e s w r : Int32} (q : ok_add M c n e s w r M') : M'.2.1 ≤ M.2.1 + 12 := by
  obtain ⟨c', n', e', s', w', -, -, -, -, -, -, -, rfl⟩ := q
  show M.2.1 + 1 ≤ _
  omega
theorem un_add (L : lo_I xs C h) (z : C.2.2.2.2.2.1.1 = 0) (hx : C.1.2.1 + 13 < 2 ^ 30) (c n e s w : Int32) (F : Int32 → jx_H → jx_R) : un_Y xs C h F (jx_cI jx_A 133 [.ref 200, .int c, .int n, .int e, .int s, .int w] h F) :=
  un_y (uc_lc (l_133 L (by omega) c n e s w) z (fun M' q => add_nx q))
theorem un_drop (L : lo_I xs C h) (z : C.2.2.2.2.2.1.1 = 0) (v : Int32) (F : Int32 → jx_H → jx_R) : un_Y xs C h F (jx_cI jx_A 134 [.ref 200, .int v] h F) :=
  un_y (uc_lc (l_134 L v) z (fun M' q => by obtain ⟨r, k, -, -, -, rfl⟩ := q; exact Nat.le_add_right _ 12))
theorem un_put (L : lo_I xs C h) (z : C.2.2.2.2.2.1.1 = 0) (v y x : Int32) (F : Int32 → jx_H → jx_R) : un_Y xs C h F (jx_cI jx_A 141 [.ref 200, .int v, .int y, .int x] h F) :=
  un_y (uc_lc (l_141 L v y x) z (fun M' q => by obtain ⟨r, k, i, j, -, -, -, -, -, -, -, -, rfl⟩ := q; exact Nat.le_add_right _ 12))
theorem un_take (L : lo_I xs C h) (z : C.2.2.2.2.2.1.1 = 0) (v : Int32) (F : Int32 → jx_H → jx_R) : un_Y xs C h F (jx_cI jx_A 142 [.ref 200, .int v] h F) :=
  un_y (uc_lc (l_142 L v) z (fun M' q => by obtain ⟨r, k, c, -, -, -, -, rfl⟩ := q; exact Nat.le_add_right _ 12))
theorem un_turn (L : lo_I xs C h) (z : C.2.2.2.2.2.1.1 = 0) (v t : Int32) (F : Int32 → jx_H → jx_R) : un_Y xs C h F (jx_cI jx_A 143 [.ref 200, .int v, .int t] h F) :=
  un_y (uc_lc (l_143 L v t) z (fun M' q => by obtain ⟨r, k, t', -, -, -, -, rfl⟩ := q; exact Nat.le_add_right _ 12))
theorem un_swap (L : lo_I xs C h) (z : C.2.2.2.2.2.1.1 = 0) (v w : Int32) (F : Int32 → jx_H → jx_R) : un_Y xs C h F (jx_cI jx_A 144 [.ref 200, .int v, .int w] h F) :=
  un_y (uc_lc (l_144 L v w) z (fun M' q => by obtain ⟨r, k, l, c, d, -, -, -, -, -, -, -, -, rfl⟩ := q; exact Nat.le_add_right _ 12))
theorem un_pg (L : lo_I xs C h) (z : C.2.2.2.2.2.1.1 = 0) (y x : Int32) (F : Int32 → jx_H → jx_R) : un_Y xs C h F (jx_cI jx_A 145 [.ref 200, .int y, .int x] h F) :=
  un_y (uc_lc (l_145 L y x) z (fun M' q => by obtain ⟨r, c, k, -, -, -, -, rfl⟩ := q; exact Nat.le_add_right _ 12))
theorem un_fl (L : lo_I xs C h) (z : C.2.2.2.2.2.1.1 = 0) (F : Int32 → jx_H → jx_R) : un_Y xs C h F (jx_is h 200 7 (jx_cI jx_A 77 [.ref 200] h F)) := by
  rw [cl_I_is L.2.1]
  exact un_y (uc_lc (l_77 L) z (fun M' q => by obtain ⟨r, q⟩ := q; rw [mm_fl_nx 20 _ _ _ q]; exact Nat.le_add_right _ 12))
theorem un_273 (L : lo_I xs C h) (z : C.2.2.2.2.2.1.1 = 0) (hx : C.1.2.1 + 13 < 2 ^ 30) {e : Nat} (he : e < 2 ^ 31) (v2 v3 v4 v5 : Value) (v7 : Value) {A : Nat} {d i c : Int32} (q2 : v2 = .ref A) (q3 : v3 = .int d) (q4 : v4 = .int i) (q5 : v5 = .int c) :
    un_Y xs C h (fun y h' => jx_E 187 369 [.ref 199, .ref 200, v2, v3, v4, v5, .int (nI e), .int y] [] h') (jx_E 187 273 [.ref 199, .ref 200, v2, v3, v4, v5, .int (nI e), v7] [] h) := by
  subst q2 q3 q4 q5
  obtain ⟨e1, he1, x1⟩ := ir_s he ((4 : Int32).toUInt32 &&& Int32.toUInt32 31)
  obtain ⟨e2, he2, x2⟩ := ir_s he ((7 : Int32).toUInt32 &&& Int32.toUInt32 31)
  obtain ⟨e3, he3, x3⟩ := ir_s he ((11 : Int32).toUInt32 &&& Int32.toUInt32 31)
  obtain ⟨e4, he4, x4⟩ := ir_s he ((15 : Int32).toUInt32 &&& Int32.toUInt32 31)
  have g1 := dg_len (e % 13)
  have g2 : (dg (e1 % 5)).length = 1 := by rw [dg_1 (by omega)]; rfl
  have g3 := dg_len (e2 % 13)
  have g4 : (dg (e3 % 9)).length = 1 := by rw [dg_1 (by omega)]; rfl
  have g5 : (dg (e4 % 8)).length = 1 := by rw [dg_1 (by omega)]; rfl
  have S0 : sI h 33 73 [110, 101, 119, 32, 97, 51, 99, 53, 97, 59, 116, 117, 114, 110, 32] := s_K L.1 rfl rfl (by decide) (by decide) (by decide) (by decide)
  obtain ⟨k1, k2, b, cap, a1, a2, a3, B2, b2, L2, j2⟩ := t_new L S0 ⟨Or.inl (by decide), Or.inl (by decide)⟩ (by decide)
  have Q2 : bq xs C h h.2.1 6 _ k2 := ⟨L2, ⟨b, cap, B2, b2⟩, Nat.le_refl _, j2⟩
  obtain ⟨k3, a4, Q3⟩ := bq_n Q2 (v := e % 13) (by omega) (by show 15 + _ ≤ 34; omega)
  obtain ⟨k4, a5, Q4⟩ := bq_s Q3 (s := 34) (c := 74) (m := [42]) rfl rfl (by decide) (by decide) (by decide) (by rw [List.length_append]; show 15 + _ + 1 ≤ 34; omega)
  obtain ⟨k5, a6, Q5⟩ := bq_n Q4 (v := e1 % 5) (by omega) (by rw [List.length_append, List.length_append]; show 15 + _ + 1 + _ ≤ 34; omega)
  obtain ⟨k6, a7, Q6⟩ := bq_s Q5 (s := 35) (c := 75) (m := [59, 112, 117, 116, 32]) rfl rfl (by decide) (by decide) (by decide) (by rw [List.length_append, List.length_append, List.length_append]; show 15 + _ + 1 + _ + 5 ≤ 34; omega)
  obtain ⟨k7, a8, Q7⟩ := bq_n Q6 (v := e2 % 13) (by omega) (by rw [List.length_append, List.length_append, List.length_append, List.length_append]; show 15 + _ + 1 + _ + 5 + _ ≤ 34; omega)
  obtain ⟨k8, a9, Q8⟩ := bq_s Q7 (s := 32) (c := 72) (m := [64]) rfl rfl (by decide) (by decide) (by decide) (by rw [List.length_append, List.length_append, List.length_append, List.length_append, List.length_append]; show 15 + _ + 1 + _ + 5 + _ + 1 ≤ 34; omega)
  obtain ⟨k9, a10, Q9⟩ := bq_n Q8 (v := e3 % 9) (by omega) (by rw [List.length_append, List.length_append, List.length_append, List.length_append, List.length_append, List.length_append]; show 15 + _ + 1 + _ + 5 + _ + 1 + _ ≤ 34; omega)
  obtain ⟨k10, a11, Q10⟩ := bq_n Q9 (v := e4 % 8) (by omega) (by rw [List.length_append, List.length_append, List.length_append, List.length_append, List.length_append, List.length_append, List.length_append]; show 15 + _ + 1 + _ + 5 + _ + 1 + _ + _ ≤ 34; omega)
  have l34 : ((([110, 101, 119, 32, 97, 51, 99, 53, 97, 59, 116, 117, 114, 110, 32] : List Nat) ++ dg (e % 13) ++ [42] ++ dg (e1 % 5) ++ [59, 112, 117, 116, 32] ++ dg (e2 % 13) ++ [64] ++ dg (e3 % 9) ++ dg (e4 % 8)) ++ [59, 102, 105, 108, 108]).length ≤ 34 := by
    rw [List.length_append, List.length_append, List.length_append, List.length_append, List.length_append, List.length_append, List.length_append, List.length_append, List.length_append]
    show 15 + _ + 1 + _ + 5 + _ + 1 + _ + _ + 5 ≤ 34
    omega
  obtain ⟨k11, a12, Q11⟩ := bq_s Q10 (s := 36) (c := 76) (m := [59, 102, 105, 108, 108]) rfl rfl (by decide) (by decide) (by decide) (by rw [List.length_append] at l34; exact l34)
  obtain ⟨k12, t, a13, S, p, L12, j12⟩ := bq_e Q11
  have z12 : zz 38 h k12 := zb_j L j12 (Nat.le_refl _)
  refine ⟨jx_A 166 [.ref 200, .ref t] k12, uc_wd (uc_tr z12 (l_166 L12 S p l34 z hx)) (by decide), fun y h' q => ?_⟩
  rw [b_187_273, if_pos L.2.2.2, jx_is_e jx_add_s, jx_cV_e a1, a2, jx_cA_e a3, bq_is Q2, x1, x2, x3, x4, ir_m he (m := 13) (w := 13) (by decide) rfl, ir_m he1 (m := 5) (w := 5) (by decide) rfl, ir_m he2 (m := 13) (w := 13) (by decide) rfl, ir_m he3 (m := 9) (w := 9) (by decide) rfl, ir_m he4 (m := 8) (w := 8) (by decide) rfl, jx_cA_e a4, bq_is Q3, jx_cA_e a5, bq_is Q4, jx_cA_e a6, bq_is Q5, jx_cA_e a7, bq_is Q6, jx_cA_e a8, bq_is Q7, jx_cA_e a9, bq_is Q8, jx_cA_e a10, bq_is Q9, jx_cA_e a11, bq_is Q10, jx_cA_e a12, bq_is Q11, jx_cA_e a13, jx_cI_e q]
end UN
end JX
