/-! Undoing: the loops; the law. -/
section JX
/-- an answer 1 that leaves what lies below b -/
def un_Q (xs : List Int32) (b : Nat) (h : jx_H) (X : jx_R) (N : Nat) : Prop := ∃ (C' : cl_T) (h' : jx_H), X = some (.inl (some (.int 1)), h') ∧ lo_I xs C' h' ∧ zb b N h h'
section UN
variable {xs : List Int32} {C : cl_T} {h : jx_H}
theorem un_q {b N M B : Nat} {X : jx_R} {h1 : jx_H} (z : zb b N h h1) (k : un_Q xs b h1 X M) (hB : N + M ≤ B) : un_Q xs b h X B := by
  obtain ⟨C', h', e, L, z'⟩ := k
  exact ⟨C', h', e, L, zb_wd (zb_tr z z') hB (Nat.le_refl _)⟩
def un_o (Z : Nat → Int64) : jx_Ob := (102, mz_ar 9 (fun k => .long (Z k)))
theorem un_l {A d : Nat} {Z : Nat → Int64} (R : ra A (un_o Z) h) (hd : d < 9) (F : Int64 → jx_R) : jx_lL h A 102 (nI d) F = F (Z d) :=
  jx_lL_e R.2.2 (nI_pos' (by omega)) (by rw [nI_clamp (by omega), mz_ar_get _ hd]) F
theorem un_s {A d : Nat} {Z : Nat → Int64} (R : ra A (un_o Z) h) (hd : d < 9) (w : Int64) (F : jx_H → jx_R) : jx_st h A 102 (nI d) (.long w) F = F (jx_set h A (un_o (mz_up Z d w))) := by
  rw [mz_st R.2.2 (by have := R.1; show 200 ≤ A; omega) hd (by decide)]
  congr 2
  refine congrArg (Prod.mk 102) (mz_ar_cong (fun k _ => ?_))
  by_cases c : k = d
  · subst c; rw [if_pos rfl, mz_up_s]
  · rw [if_neg c, mz_up_n c]
/-- the way back -/
theorem un_417 {A : Nat} {v3 : Int32} {Z : Nat → Int64} {W : Nat → mm_T} : ∀ (r : Nat) {C : cl_T} {h : jx_H} {v6 v7 : Value} {ct : Nat}, r ≤ 8 → lo_I xs C h → ra A (un_o Z) h → (∀ k, k < r → sm_P xs (W k) (Z k)) → (∀ j, j < r → C.2.2.2.1 j = W (r - 1 - j)) → C.2.2.1 = ct → r ≤ ct → ct ≤ 8 →
    un_Q xs A h (jx_E 187 417 [.ref 199, .ref 200, .ref A, .int v3, .int (nI ct), .int (nI r - 1), v6, v7] [] h) (40 * r)
  | 0, C, h, v6, v7, ct, hr, L, R, hs, hh, hc, h1, h8 => by
    rw [b_187_417, if_pos (by decide)]
    exact ⟨C, h, rfl, L, zb_rf⟩
  | r + 1, C, h, v6, v7, ct, hr, L, R, hs, hh, hc, h1, h8 => by
    rw [b_187_417, nI_pred, if_neg (nI_pos (by omega))]
    rcases c_110 L.2.1 with ⟨q, -⟩ | ⟨-, h2, e2, I2, t2⟩
    · omega
    · have L2 := lo_eq L t2 I2
      rw [hc] at e2
      have e0 : (cl_pop C).1 = W r := by
        have := hh 0 (by omega)
        rw [show r + 1 - 1 - 0 = r by omega] at this
        exact this
      obtain ⟨h3, e3, L3, z3⟩ := hs r (by omega) (cl_pop C) h2 L2 e0
      have lc : nI ct + (-1) = nI (ct - 1) := by
        have := nI_pred (ct - 1)
        rw [show ct - 1 + 1 = ct by omega] at this
        rw [← this, Int32.sub_eq_add_neg]
      have lr : nI r + (-1) = nI r - 1 := (Int32.sub_eq_add_neg _ _).symm
      have z2 := zz_eq t2
      have z23 := zb_of (b := A) (zz_tr z2 z3) (Nat.le_of_lt R.2.1)
      have R3 := ra_z R (zz_tr z2 z3)
      rw [jx_cI_e (w_162_ok L.2.1 e2), lc, if_pos rfl, jx_cL_e e3, un_l R3 (by omega), if_pos (lg_rf _), lr]
      refine un_q z23 (un_417 r (ct := ct - 1) (by omega) L3 R3 (fun k hk => hs k (by omega)) (fun j hj => ?_) ?_ (by omega) (by omega)) (by omega)
      · show C.2.2.2.1 (j + 1) = _
        rw [hh (j + 1) (by omega), show r + 1 - 1 - (j + 1) = r - 1 - j by omega]
      · show C.2.2.1 - 1 = ct - 1
        rw [hc]
/-- the changes -/
theorem un_10 (hL : xs.length ≤ 4000) {A : Nat} : ∀ (f i d : Nat) {C : cl_T} {h : jx_H} {v5 v6 v7 : Value} {Z : Nat → Int64} {W : Nat → mm_T}, i + f = 7 → d ≤ i → lo_I xs C h → ra A (un_o Z) h → (∀ k, k < d → sm_P xs (W k) (Z k)) → (∀ j, j < d → C.2.2.2.1 j = W (d - 1 - j)) → d ≤ C.2.2.1 → C.2.2.2.2.2.1.1 = 0 → C.1.2.1 ≤ 12 + 12 * i →
    un_Q xs A h (jx_E 187 10 [.ref 199, .ref 200, .ref A, .int (nI d), .int (nI i), v5, v6, v7] [] h) (140 * f + 320)
  | 0, i, d, C, h, v5, v6, v7, Z, W, hf, hd, L, R, hs, hh, hc, z, hx => by
    have hi : i = 7 := by omega
    subst hi
    have O := cl_I_ok L.2.1
    rw [b_187_10, if_pos (by decide), cl_I_is L.2.1, jx_cI_e (c_111 L.2.1)]
    obtain ⟨C', h', e, L', z'⟩ := un_417 (xs := xs) (A := A) (v3 := nI d) (v6 := v6) (v7 := v7) d (by omega) L R hs hh rfl hc O.2.2.2.2
    exact ⟨C', h', e, L', zb_wd z' (by omega) (Nat.le_refl _)⟩
  | f + 1, i, d, C, h, v5, v6, v7, Z, W, hf, hd, L, R, hs, hh, hc, z, hx => by
    have O := cl_I_ok L.2.1
    have e1 : (22 : Int32) + nI i = nI (22 + i) := nI_add 22 i
    obtain ⟨y, ey⟩ := l_165 L hL (i := 22 + i) (by omega)
    obtain ⟨c, hc', ec⟩ := ir_y y
    obtain ⟨e, he, ee⟩ := ir_s hc' ((4 : Int32).toUInt32 &&& Int32.toUInt32 31)
    obtain ⟨w, hw⟩ := sm_x xs C.1
    obtain ⟨h5, e5, L5, z5⟩ := hw C h L rfl
    have R5 := ra_z R z5
    have L6 := lo_set (o := un_o (mz_up Z d w)) L5 R.1
    have R6 : ra A (un_o (mz_up Z d w)) (jx_set h5 A (un_o (mz_up Z d w))) := ra_set R5
    have z6 : zb A 40 h (jx_set h5 A (un_o (mz_up Z d w))) := zb_tr (N' := 0) (zb_of z5 (Nat.le_of_lt R.2.1)) (zb_set (Nat.le_refl _) R.1)
    rw [b_187_10, if_neg (show ¬ (7 : Int32) ≤ nI i from nI_ge (b := 7) (by omega) (by decide)), e1, jx_cI_e ey, jx_cL_e e5, un_s R5 (by omega), ec, ee]
    generalize jx_set h5 A (un_o (mz_up Z d w)) = h6 at *
    have hs' : ∀ k, k < d + 1 → sm_P xs (mz_up W d C.1 k) (mz_up Z d w k) := fun k hk => by
      by_cases q : k = d
      · subst q; rw [mz_up_s, mz_up_s]; exact hw
      · rw [mz_up_n q, mz_up_n q]; exact hs k (by omega)
    have key : ∀ (X : jx_R), un_Y xs C h6 (fun y h' => jx_E 187 369 [.ref 199, .ref 200, .ref A, .int (nI d), .int (nI i), .int (nI c), .int (nI e), .int y] [] h') X → un_Q xs A h X (140 * (f + 1) + 320) := by
      rintro X ⟨Y, ⟨n, C', h', n30, q, L', c1, c2, c3, c4, t'⟩ | ⟨r, C', h', r0, q, L', u, c3, t'⟩, hX⟩
      · rw [hX _ _ q]
        dsimp only
        rw [b_187_369, if_pos (nI_pos' (by omega)), if_pos (nI_pos' (by omega)), nI_1, nI_1]
        refine un_q (zb_tr z6 (zb_of t' (Nat.le_of_lt R6.2.1))) (un_10 hL f (i + 1) (d + 1) (Z := mz_up Z d w) (W := mz_up W d C.1) (by omega) (by omega) L' (ra_z R6 t') hs' (fun j hj => ?_) ?_ c3 (by omega)) (by omega)
        · rw [c2]
          cases j with
          | zero =>
            show C.1 = mz_up W d C.1 (d + 1 - 1 - 0)
            rw [show d + 1 - 1 - 0 = d by omega, mz_up_s]
          | succ j =>
            show C.2.2.2.1 j = mz_up W d C.1 (d + 1 - 1 - (j + 1))
            rw [mz_up_n (by omega), hh j (by omega), show d + 1 - 1 - (j + 1) = d - 1 - j by omega]
        · rw [c1]; omega
      · have nr : ¬ (0 : Int32) ≤ r := Int32.not_le.mpr r0
        obtain ⟨h7, e7, L7, z7⟩ := hw C' h' L' u.1
        have R7 := ra_z (ra_z R6 t') z7
        rw [hX _ _ q]
        dsimp only
        rw [b_187_369, if_neg nr, jx_cL_e e7, un_l R7 (by omega), mz_up_s, if_pos (lg_rf _), if_neg nr, Int32.add_zero, nI_1]
        refine un_q (zb_tr (zb_tr z6 (zb_of t' (Nat.le_of_lt R6.2.1))) (zb_of z7 (Nat.le_of_lt (ra_z R6 t').2.1))) (un_10 hL f (i + 1) d (Z := mz_up Z d w) (W := mz_up W d C.1) (by omega) (by omega) L7 R7 (fun k hk => hs' k (by omega)) (fun j hj => ?_) ?_ c3 (by rw [u.1]; omega)) (by omega)
        · rw [u.2.2, mz_up_n (by omega)]; exact hh j hj
        · rw [u.2.1]; exact hc
    have hx13 : C.1.2.1 + 13 < 2 ^ 30 := by omega
    split
    · refine key _ ?_; rw [b_187_100]; exact un_add L6 z hx13 _ _ _ _ _ _
    · split
      · refine key _ ?_; rw [b_187_145]; exact un_drop L6 z _ _
      · split
        · refine key _ ?_; rw [b_187_159]; exact un_put L6 z _ _ _ _
        · split
          · refine key _ ?_; rw [b_187_159]; exact un_put L6 z _ _ _ _
          · split
            · refine key _ ?_; rw [b_187_188]; exact un_take L6 z _ _
            · split
              · refine key _ ?_; rw [b_187_202]; exact un_turn L6 z _ _ _
              · split
                · refine key _ ?_; rw [b_187_222]; exact un_swap L6 z _ _ _
                · split
                  · refine key _ ?_; rw [b_187_243]; exact un_pg L6 z _ _ _
                  · split
                    · refine key _ ?_; rw [b_187_264]; exact un_fl L6 z _
                    · exact key _ (un_273 L6 z hx13 he _ _ _ _ v7 rfl rfl rfl rfl)
theorem l_187 (L : lo_I xs C h) (hL : xs.length ≤ 4000) (z : C.2.2.2.2.2.1.1 = 0) (hx : C.1.2.1 ≤ 12) : ∃ (C' : cl_T) (h' : jx_H), jx_A 187 [.ref 199, .ref 200] h = some (.inl (some (.int 1)), h') ∧ lo_I xs C' h' ∧ zz 1400 h h' := by
  have h7 := L.2.2.1
  have R0 : ra h.2.1 (un_o (fun _ => 0)) (jx_add h (102, List.replicate (9 : Int32).toNatClampNeg (.long 0)) (9 : Int32).toNatClampNeg) := by
    have := ra_add (h := h) (o := (102, List.replicate (9 : Int32).toNatClampNeg (.long 0))) (n := (9 : Int32).toNatClampNeg) h7
    rw [show un_o (fun _ => 0) = (102, List.replicate (9 : Int32).toNatClampNeg (.long 0)) from congrArg (Prod.mk 102) (mz_ar_rep 9 (Value.long 0)).symm]
    exact this
  have L1 : lo_I xs C (jx_add h (102, List.replicate (9 : Int32).toNatClampNeg (.long 0)) (9 : Int32).toNatClampNeg) := lo_add L
  have Z0 : zb h.2.1 1 h (jx_add h (102, List.replicate (9 : Int32).toNatClampNeg (.long 0)) (9 : Int32).toNatClampNeg) := zb_add (Nat.le_refl _) h7 (by decide) (by decide)
  rw [a_187, if_pos ⟨by decide, by decide, L.2.2.2⟩]
  obtain ⟨C', h', e, L', z'⟩ := un_10 hL (A := h.2.1) 7 0 0 (v5 := jx_j) (v6 := jx_j) (v7 := jx_j) (W := fun _ => C.1) (by decide) (Nat.le_refl _) L1 R0 (fun k hk => absurd hk (Nat.not_lt_zero _)) (fun k hk => absurd hk (Nat.not_lt_zero _)) (Nat.zero_le _) z (by omega)
  exact ⟨C', h', e, L', zb_zz (zb_wd (zb_tr Z0 z') (by decide) (Nat.le_refl _))⟩
end UN
end JX
