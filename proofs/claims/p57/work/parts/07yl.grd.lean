/-! grid. -/
section JX
theorem Int64_or0 (x : Int64) : x ||| 0 = x := mb_ext fun c _ => by rw [mb_or, mb_0, Bool.or_false]
/-- whether a cell has a fragment of a colour -/
def gr_c (o : Nat → Option fg_T) (v c : Nat) : Bool := match o c with | some f => fg_co f == v | none => false
theorem mm_cm_e (M : mm_T) (v : Nat) : mm_cm M v = mz_mkr (gr_c M.2.2.2 v) 64 := rfl
def gr_o (o : Nat → Option fg_T) (i : Nat) : jx_Ob := (102, mz_ar 6 (fun j => .long (mz_mkr (gr_c o (97 + j)) i)))
/-- all colours are of the first six -/
def dr_K (M : mm_T) : Prop := ∀ k, k < M.1 → 97 ≤ fg_co (M.2.2.1 k) ∧ fg_co (M.2.2.1 k) ≤ 102
theorem gr_none {o : Nat → Option fg_T} {i : Nat} (e : o i = none) : gr_o o (i + 1) = gr_o o i := by
  unfold gr_o
  congr 1
  refine mz_ar_cong (fun j _ => ?_)
  show Value.long (bif gr_c o (97 + j) i then _ else _) = _
  unfold gr_c
  rw [e]
  rfl
theorem gr_some {o : Nat → Option fg_T} {i j0 : Nat} {f : fg_T} (e : o i = some f) (ec : fg_co f = 97 + j0) : gr_o o (i + 1) = (102, mz_ar 6 (fun j => if j = j0 then .long (mz_mkr (gr_c o (97 + j0)) i ||| mz_bit i) else .long (mz_mkr (gr_c o (97 + j)) i))) := by
  unfold gr_o
  congr 1
  refine mz_ar_cong (fun j _ => ?_)
  show Value.long (bif gr_c o (97 + j) i then mz_mkr (gr_c o (97 + j)) i ||| mz_bit i else mz_mkr (gr_c o (97 + j)) i) = _
  have e2 : gr_c o (97 + j) i = (j == j0) := by
    show (match o i with | some f => fg_co f == 97 + j | none => false) = _
    rw [e]
    show (fg_co f == 97 + j) = _
    rw [ec]
    by_cases z : j = j0
    · subst z; rw [beq_self_eq_true, beq_self_eq_true]
    · rw [beq_eq_false_iff_ne.mpr z, beq_eq_false_iff_ne.mpr (show 97 + j0 ≠ 97 + j by omega)]
  rw [e2]
  by_cases z : j = j0
  · subst z; rw [beq_self_eq_true, if_pos rfl]; rfl
  · rw [beq_eq_false_iff_ne.mpr z, if_neg z]; rfl
theorem gr_rd {o : Nat → Option fg_T} {A i j : Nat} {h : jx_H} (R : ra A (gr_o o i) h) (hj : j < 6) (F : Int64 → jx_R) : jx_lL h A 102 (nI j) F = F (mz_mkr (gr_c o (97 + j)) i) :=
  jx_lL_e R.2.2 (nI_pos' (by omega)) (by rw [nI_clamp (by omega), mz_ar_get _ hj]) F
theorem gr_wr {o : Nat → Option fg_T} {A i j : Nat} {f : fg_T} {h : jx_H} (R : ra A (gr_o o i) h) (e : o i = some f) (ec : fg_co f = 97 + j) (hj : j < 6) (F : jx_H → jx_R) : jx_st h A 102 (nI j) (.long (mz_mkr (gr_c o (97 + j)) i ||| mz_bit i)) F = F (jx_set h A (gr_o o (i + 1))) := by
  rw [mz_st R.2.2 (show 200 ≤ A by have := R.1; omega) hj (by decide), gr_some e ec]
theorem mm_ms_4 (o : Nat → Option fg_T) (c : Nat) : mm_ms o 1 c + mm_ms o 2 c ≤ 4 := by
  unfold mm_ms
  rw [mz_su_plus]
  refine mz_su_le (b := 1) (fun s _ => ?_)
  rcases lg_ct2 (o := o) (c := c) (s := s) with e | e | e <;> rw [e] <;> decide
theorem mm_on_lo (M : mm_T) : mm_on M + lo_n M.1 M.2.2.1 = M.1 := mz_su_not _ _
theorem lg_rf (x : Int64) : lg_cmp x x = 0 := lg_0.mpr rfl
section LO
variable {xs : List Int32} {C : cl_T} {h : jx_H}
theorem l_163 (L : lo_I xs C h) {j : Nat} (hj : j < 6) : lo_V xs C h (jx_A 163 [.ref 200, .int (nI (97 + j))] h) (.long (mm_cm C.1 (97 + j))) 0 := by
  rcases c_81 L.2.1 (nI (97 + j)) with ⟨v, h1, h2, h3, h4⟩ | ⟨h1, -⟩
  · have e : 97 + j = v := (nI_eq (by omega) (by omega)).mp h3
    rw [e] at h4 ⊢
    exact ⟨h, w_163_ok L.2.1 h4, L, zz_rf⟩
  · exact absurd rfl (h1 (97 + j) (by omega) (by omega))
theorem l_163n (L : lo_I xs C h) : lo_V xs C h (jx_A 163 [.ref 200, .int 103] h) (.long (-2)) 1 := by
  rcases c_81 L.2.1 103 with ⟨v, h1, h2, h3, h4⟩ | ⟨-, h2⟩
  · exfalso
    have e : 103 = v := (nI_eq (a := 103) (by decide) (by omega)).mp h3
    omega
  · exact ⟨jx_thr h, w_163_eIA L.2.1 h2, lo_x L, zz_x⟩
theorem lw_cF {b m : Nat} {as : List Value} {y : UInt32} {v : Value} {B : Nat} {f : UInt32 → jx_H → jx_R} (e : jx_A m as h = some (.inl (some (.float y)), h)) (k : lo_W b xs C h (f y h) v B) : lo_W b xs C h (jx_cF jx_A m as h f) v B := by
  rw [jx_cF_e e]; exact k
theorem lw_cD {b m : Nat} {as : List Value} {y : UInt64} {v : Value} {B : Nat} {f : UInt64 → jx_H → jx_R} (e : jx_A m as h = some (.inl (some (.double y)), h)) (k : lo_W b xs C h (f y h) v B) : lo_W b xs C h (jx_cD jx_A m as h f) v B := by
  rw [jx_cD_e e]; exact k
theorem gr_ct1 {n : Nat} (hn : n = 0 ∨ n = 1 ∨ n = 2) {α : Type} (x y : α) : (if lg_k n = 1 then x else y) = (bif n == 1 then x else y) := by
  rcases hn with rfl | rfl | rfl <;> rfl
theorem gr_97 : ∀ j, j < 6 → ((97 + nI j).toUInt32 % 65536).toInt32 = nI (97 + j) := by decide +kernel
theorem l_180 (L : lo_I xs C h) (D : dr_I C.1) (K : dr_K C.1) : lo_V xs C h (jx_A 180 [.ref 200] h) (.int 1) 3100 := by
  have n20 := D.2.1
  have l20 := lo_le C.1.1 C.1.2.2.1
  have h7 := L.2.2.1
  have p40 := mm_pr_2 C.1 n20
  rw [a_180, if_pos ⟨by decide, by decide, L.2.2.2⟩]
  generalize hA : h.2.1 = A at *
  have R0 : ra A (gr_o C.1.2.2.2 0) (jx_add h (102, List.replicate (6 : Int32).toNatClampNeg (.long 0)) (6 : Int32).toNatClampNeg) := by
    have := ra_add (h := h) (o := (102, List.replicate (6 : Int32).toNatClampNeg (.long 0))) (n := (6 : Int32).toNatClampNeg) (by omega)
    rw [hA] at this
    rw [show gr_o C.1.2.2.2 0 = (102, List.replicate (6 : Int32).toNatClampNeg (.long 0)) from congrArg (Prod.mk 102) (mz_ar_rep 6 (Value.long 0)).symm]
    exact this
  have Z0 : zb A 2 h (jx_add h (102, List.replicate (6 : Int32).toNatClampNeg (.long 0)) (6 : Int32).toNatClampNeg) := zb_add (by omega) (by omega) (by decide) (by decide)
  generalize hh : jx_add h (102, List.replicate (6 : Int32).toNatClampNeg (.long 0)) (6 : Int32).toNatClampNeg = hx at *
  have L1 : lo_I xs C hx := hh ▸ lo_add L
  clear hh
  have hA' : ∀ {h' : jx_H} {o : jx_Ob}, ra A o h' → A ≤ h'.2.1 := fun q => Nat.le_of_lt q.2.1
  -- the end
  have ends : ∀ (h : jx_H) (y9 : Int32) (g11 g12 : Value), lo_I xs C h → ra A (gr_o C.1.2.2.2 64) h → lo_W A xs C h (jx_E 180 427 [.ref 200, .long (mm_pm C.1), jx_j, .long (mm_gm C.1), jx_j, .int (nI (mz_su (fun c => (mm_gap C.1.2.2.2 c).toNat) 64)), .ref A, .int (nI (mm_pr C.1 1)), .int (nI (mm_pr C.1 2)), .int y9, .int 1, g11, g12] [.int 1] h) (.int 1) 6 := by
    intro h y9 g11 g12 L R
    rw [b_180_427, if_neg (by decide), if_neg (by decide)]
    refine lw_is L (lw_cL (lo_p L (c_80 L.2.1)) (hA' R) (by decide) (fun h1 L z1 => ?_))
    have R := ra_z R z1
    rw [if_pos (lg_rf _)]
    refine lw_is L (lw_cL (lo_p L (c_82 L.1 L.2.1)) (hA' R) (by decide) (fun h2 L z1 => ?_))
    have R := ra_z R z1
    rw [if_pos (lg_rf _)]
    refine lw_is L (lw_cL (lo_p L (c_83 L.2.1)) (hA' R) (by decide) (fun h3 L z1 => ?_))
    have R := ra_z R z1
    rw [if_pos (lg_rf _)]
    refine lw_is L (lw_cI (lo_p L (c_84 L.1 L.2.1)) (hA' R) (by decide) (fun h4 L z1 => ?_))
    have R := ra_z R z1
    rw [if_pos rfl]
    refine lw_is L (lw_cI (lo_p L (c_85 L.1 L.2.1)) (hA' R) (by decide) (fun h5 L z1 => ?_))
    have R := ra_z R z1
    rw [if_pos rfl]
    refine lw_is L (lw_cI (lo_p L (c_86 L.1 L.2.1)) (hA' R) (by decide) (fun h6 L z1 => ?_))
    have R := ra_z R z1
    rw [if_pos rfl]
    refine lw_cL (l_163n L) (hA' R) (by decide) (fun h7 L z1 => ?_)
    have R := ra_z R z1
    rw [if_pos (lg_rf _)]
    refine lw_cI (l_147 L (q_out_y 8 0 (by decide))) (hA' R) (by decide) (fun h8 L z1 => ?_)
    have R := ra_z R z1
    rw [if_pos (show lb C.1 none = -11 from rfl)]
    refine lw_cI (l_147 L (q_out_x 0 (-1) (by decide))) (hA' R) (by decide) (fun h9 L z1 => ?_)
    have R := ra_z R z1
    rw [if_pos (show lb C.1 none = -11 from rfl)]
    refine lw_cI (l_146n L (q_out_y (-1) 0 (by decide))) (hA' R) (by decide) (fun h10 L z1 => ?_)
    have R := ra_z R z1
    rw [if_pos rfl]
    refine lw_cI (l_150n L (q_out_x 0 8 (by decide))) (hA' R) (by decide) (fun h11 L z1 => ?_)
    rw [if_pos rfl]
    exact lw_rt L _
  -- the mean
  have mean : ∀ (h : jx_H) (g10 g11 g12 : Value), lo_I xs C h → ra A (gr_o C.1.2.2.2 64) h → lo_W A xs C h (jx_E 180 398 [.ref 200, .long (mm_pm C.1), jx_j, .long (mm_gm C.1), jx_j, .int (nI (mz_su (fun c => (mm_gap C.1.2.2.2 c).toNat) 64)), .ref A, .int (nI (mm_pr C.1 1)), .int (nI (mm_pr C.1 2)), .int (nI (mm_on C.1)), g10, g11, g12] [.int 1] h) (.int 1) 6 := by
    intro h g10 g11 g12 L R
    have o20 : mm_on C.1 ≤ 20 := by have := mm_on_lo C.1; omega
    rw [b_180_398]
    by_cases z : mm_on C.1 = 0
    · rw [if_pos (by rw [z]; rfl)]
      exact ends h _ g11 g12 L R
    · rw [if_neg (nI_ne0 (by omega) (by omega))]
      have e := c_101 L.1 L.2.1
      rw [if_neg z] at e
      obtain ⟨f1, f2⟩ := fd_at (j := mm_pr C.1 1) (n := mm_on C.1) (by omega) (by omega) o20
      refine lw_is L (lw_cD e ?_)
      rw [jx_n64_e (show isNaN64 (FP.ddiv (FP.i2d (2 * nI (mm_pr C.1 1))) (FP.i2d (nI (mm_on C.1)))) = false from f1), if_pos (show Op.cmpValue (FP.dcmp (fq_d (mm_pr C.1 1) (mm_on C.1)) (FP.ddiv (FP.i2d (2 * nI (mm_pr C.1 1))) (FP.i2d (nI (mm_on C.1))))) .l = 0 from f2)]
      exact ends h _ g11 g12 L R
  -- behind the masks
  have share : ∀ (h : jx_H) (g8 g9 g10 g11 g12 : Value), lo_I xs C h → ra A (gr_o C.1.2.2.2 64) h → lo_W A xs C h (jx_E 180 288 [.ref 200, .long (mm_pm C.1), jx_j, .long (mm_gm C.1), jx_j, .int (nI (mz_su (fun c => (mm_gap C.1.2.2.2 c).toNat) 64)), .ref A, .int (nI 6), g8, g9, g10, g11, g12] [] h) (.int 1) 518 := by
    intro h g8 g9 g10 g11 g12 L R
    rw [b_180_288, if_pos (by decide)]
    refine lw_cI (l_178 L D (k := 1) (Or.inl rfl)) (hA' R) (by decide) (fun h1 L z1 => ?_)
    have R := ra_z R z1
    refine lw_cI (l_178 L D (k := 2) (Or.inr rfl)) (hA' R) (by decide) (fun h2 L z1 => ?_)
    have R := ra_z R z1
    refine lw_is L (lw_cI (l_62 L) (hA' R) (by decide) (fun h3 L z1 => ?_))
    have R := ra_z R z1
    refine lw_is L (lw_cI (l_63 L) (hA' R) (by decide) (fun h4 L z1 => ?_))
    have R := ra_z R z1
    have on := mm_on_lo C.1
    rw [nI_add, show nI C.1.1 - nI (lo_n C.1.1 C.1.2.2.1) = nI (mm_on C.1) by rw [pk_sub (by omega)]; congr 1; omega]
    by_cases z : mm_pr C.1 1 + mm_pr C.1 2 = 0
    · rw [if_pos (by rw [z]; rfl)]
      exact lw_wd (mean h4 g10 g11 g12 L R) (by decide)
    · rw [if_neg (nI_ne0 (by omega) (by omega))]
      obtain ⟨f1, -, -, f4, -⟩ := fq_at (j := mm_pr C.1 1) (a := mm_pr C.1 1 + mm_pr C.1 2) (by omega) (by omega) p40
      have e1 := c_99 L.1 L.2.1
      have e2 := c_100 L.1 L.2.1
      rw [if_neg z] at e1 e2
      have e3 : ∀ h, jx_A 243 [.float (fq_f (mm_pr C.1 1) (mm_pr C.1 1 + mm_pr C.1 2))] h = some (.inl (some (.int (fq_f (mm_pr C.1 1) (mm_pr C.1 1 + mm_pr C.1 2)).toInt32)), h) := fun h => by
        have e4 : jx_A 242 [.float (fq_f (mm_pr C.1 1) (mm_pr C.1 1 + mm_pr C.1 2))] h = some (.inl (some (.int 0)), h) := by rw [a_242, if_pos f4]
        rw [a_243, jx_cI_e e4, if_pos rfl]
      refine lw_is L (lw_cF e1 ?_)
      show lo_W A xs C h4 (jx_n32 (fq_f (mm_pr C.1 1) (mm_pr C.1 1 + mm_pr C.1 2)) _) _ _
      rw [jx_n32_e f1, if_pos (show Op.cmpValue (FP.fcmp (fq_f (mm_pr C.1 1) (mm_pr C.1 1 + mm_pr C.1 2)) (FP.fdiv (FP.i2f (nI (mm_pr C.1 1))) (FP.i2f (nI (mm_pr C.1 1 + mm_pr C.1 2))))) .l = 0 from f4)]
      refine lw_is L (lw_cI (lo_p L e2) (hA' R) (by decide) (fun h5 L z1 => ?_))
      have R := ra_z R z1
      show lo_W A xs C h5 (jx_n32 (fq_f (mm_pr C.1 1) (mm_pr C.1 1 + mm_pr C.1 2)) _) _ _
      rw [jx_n32_e f1]
      refine lw_cI (lo_p L (e3 h5)) (hA' R) (by decide) (fun h6 L z1 => ?_)
      have R := ra_z R z1
      rw [if_pos rfl]
      exact lw_wd (mean h6 g10 g11 g12 L R) (by decide)
  -- the masks of the colours
  have cols : ∀ (h : jx_H) (g8 g9 g10 g11 g12 : Value), lo_I xs C h → ra A (gr_o C.1.2.2.2 64) h → lo_W A xs C h (jx_E 180 288 [.ref 200, .long (mm_pm C.1), jx_j, .long (mm_gm C.1), jx_j, .int (nI (mz_su (fun c => (mm_gap C.1.2.2.2 c).toNat) 64)), .ref A, .int (nI 0), g8, g9, g10, g11, g12] [] h) (.int 1) 518 := by
    intro h g8 g9 g10 g11 g12 L R
    refine lw_wd (lw_lp (b := A) (γ := Unit) (fun j _ h => jx_E 180 288 [.ref 200, .long (mm_pm C.1), jx_j, .long (mm_gm C.1), jx_j, .int (nI (mz_su (fun c => (mm_gap C.1.2.2.2 c).toNat) 64)), .ref A, .int (nI j), g8, g9, g10, g11, g12] [] h) 6 0 518 _ (fun _ _ h => ra A (gr_o C.1.2.2.2 64) h) (fun _ h R L => share h g8 g9 g10 g11 g12 L R) ?_ 0 () h (by decide) R L) (by decide)
    intro j _ h B hj R L kk
    show lo_W A xs C h (jx_E 180 288 _ _ _) _ _
    rw [b_180_288, if_neg (show ¬ (6 : Int32) ≤ nI j from nI_ge hj (by decide)), gr_97 j hj]
    refine lw_cL (l_163 L hj) (hA' R) (by omega) (fun h1 L z1 => ?_)
    have R := ra_z R z1
    rw [gr_rd R hj, mm_cm_e, if_pos (lg_rf _), nI_1]
    exact lw_wd (kk () h1 R L) (by omega)
  -- the cells
  have key : lo_W A xs C hx (jx_E 180 16 [.ref 200, .long 0, jx_j, .long 0, jx_j, .int 0, .ref A, .int 0, jx_j, jx_j, jx_j, jx_j, jx_j] [] hx) (.int 1) 3090 := by
    refine lw_wd (lw_lp (b := A) (γ := Value × Value × Value × Value × Value) (fun i g h => jx_E 180 16 [.ref 200, .long (mz_mkr (fun c => (C.1.2.2.2 c).isSome) i), jx_j, .long (mz_mkr (mm_gap C.1.2.2.2) i), jx_j, .int (nI (mz_su (fun c => (mm_gap C.1.2.2.2 c).toNat) i)), .ref A, .int (nI i), g.1, g.2.1, g.2.2.1, g.2.2.2.1, g.2.2.2.2] [] h) 64 40 518 _ (fun i _ h => ra A (gr_o C.1.2.2.2 i) h) ?_ ?_ 0 (jx_j, jx_j, jx_j, jx_j, jx_j) hx (by decide) R0 L1) (by decide)
    · intro g h R L
      show lo_W A xs C h (jx_E 180 16 _ _ _) _ _
      rw [b_180_16, if_pos (by decide)]
      exact cols h _ _ _ _ _ L R
    · intro i g h B hi R L kk
      show lo_W A xs C h (jx_E 180 16 _ _ _) _ _
      rw [b_180_16, if_neg (show ¬ (64 : Int32) ≤ nI i from nI_ge hi (by decide)), lg_div i hi, lg_mod i hi]
      have m1 : mz_mkr (fun c => (C.1.2.2.2 c).isSome) (i + 1) = bif (C.1.2.2.2 i).isSome then mz_mkr (fun c => (C.1.2.2.2 c).isSome) i ||| mz_bit i else mz_mkr (fun c => (C.1.2.2.2 c).isSome) i := rfl
      have m2 : mz_mkr (mm_gap C.1.2.2.2) (i + 1) = bif mm_gap C.1.2.2.2 i then mz_mkr (mm_gap C.1.2.2.2) i ||| mz_bit i else mz_mkr (mm_gap C.1.2.2.2) i := rfl
      have m3 : mz_su (fun c => (mm_gap C.1.2.2.2 c).toNat) (i + 1) = mz_su (fun c => (mm_gap C.1.2.2.2 c).toNat) i + (mm_gap C.1.2.2.2 i).toNat := rfl
      have occ : ∀ {f : fg_T}, C.1.2.2.2 i = some f → mm_gap C.1.2.2.2 i = false := fun e => by unfold mm_gap; rw [e]; rfl
      -- behind the masks of one cell
      have fin : ∀ (h : jx_H) (y10 : Int32) (g12 : Value), lo_I xs C h → ra A (gr_o C.1.2.2.2 (i + 1)) h → ((y10 < 0 ∧ C.1.2.2.2 i = none) ∨ ∃ k, k < C.1.1 ∧ C.1.2.2.2 i = some (C.1.2.2.1 k) ∧ y10 = nI k ∧ fg_ce (C.1.2.2.1 k) = i + 1) → lo_W A xs C h (jx_E 180 175 [.ref 200, .long (mz_mkr (fun c => (C.1.2.2.2 c).isSome) (i + 1)), jx_j, .long (mz_mkr (mm_gap C.1.2.2.2) (i + 1)), jx_j, .int (nI (mz_su (fun c => (mm_gap C.1.2.2.2 c).toNat) (i + 1))), .ref A, .int (nI i), .int (nI (i / 8)), .int (nI (i % 8)), .int y10, .int (bI (mm_gap C.1.2.2.2 i)), g12] [] h) (.int 1) (26 + B) := by
        intro h y10 g12 L R hy
        have l4 := mm_ms_4 C.1.2.2.2 i
        rw [b_180_175]
        refine lw_cI (l_177 L D (k := 1) hi (Or.inl rfl)) (hA' R) (by omega) (fun h1 L z1 => ?_)
        have R := ra_z R z1
        refine lw_cI (l_177 L D (k := 2) hi (Or.inr rfl)) (hA' R) (by omega) (fun h2 L z1 => ?_)
        have R := ra_z R z1
        refine lw_cI (l_146 L (q_rc hi)) (hA' R) (by omega) (fun h3 L z1 => ?_)
        have R := ra_z R z1
        rw [nI_add]
        have le4 : nI (mm_ms C.1.2.2.2 1 i + mm_ms C.1.2.2.2 2 i) ≤ 4 := nI_le (b := 4) l4 (by decide)
        rcases hy with ⟨q1, q2⟩ | ⟨k, hk, q2, rfl, q4⟩
        · rw [if_neg (Int32.not_le.mpr q1), q2, b_180_214, if_pos (show bI (none : Option fg_T).isNone = 1 from rfl), if_pos q1, b_180_253, bI_if, nI_1]
          cases gp : mm_gap C.1.2.2.2 i with
          | true =>
            show lo_W A xs C h3 (if _ then _ else _) _ _
            rw [if_pos le4]
            exact lw_wd (kk (.int (nI (i / 8)), .int (nI (i % 8)), .int y10, .int (bI true), .int (nI (mm_ms C.1.2.2.2 1 i + mm_ms C.1.2.2.2 2 i))) h3 R L) (by omega)
          | false =>
            show lo_W A xs C h3 (jx_cI jx_A 150 _ h3 _) _ _
            refine lw_cI (l_150u L hi gp) (hA' R) (by omega) (fun h4 L z1 => ?_)
            have R := ra_z R z1
            rw [if_pos rfl, if_pos le4]
            exact lw_wd (kk (.int (nI (i / 8)), .int (nI (i % 8)), .int y10, .int (bI false), .int (nI (mm_ms C.1.2.2.2 1 i + mm_ms C.1.2.2.2 2 i))) h4 R L) (by omega)
        · have gp := occ q2
          have np : ¬ nI k < 0 := nI_pos (by omega)
          rw [if_pos (Int32.not_lt.mp np), q2, b_180_214, if_pos (show bI (some (C.1.2.2.1 k)).isNone = 0 from rfl), if_neg np]
          refine lw_cI (l_149 L D hk q4) (hA' R) (by omega) (fun h4 L z1 => ?_)
          have R := ra_z R z1
          refine lw_cI (l_177 L D (k := 2) hi (Or.inr rfl)) (hA' R) (by omega) (fun h5 L z1 => ?_)
          have R := ra_z R z1
          rw [if_pos rfl]
          refine lw_cI (l_150u L hi gp) (hA' R) (by omega) (fun h6 L z1 => ?_)
          have R := ra_z R z1
          rw [if_pos rfl, b_180_253, bI_if, gp]
          show lo_W A xs C h6 (jx_cI jx_A 150 _ h6 _) _ _
          refine lw_cI (l_150u L hi gp) (hA' R) (by omega) (fun h7 L z1 => ?_)
          have R := ra_z R z1
          rw [if_pos rfl, if_pos le4, nI_1]
          exact lw_wd (kk (.int (nI (i / 8)), .int (nI (i % 8)), .int (nI k), .int (bI false), .int (nI (mm_ms C.1.2.2.2 1 i + mm_ms C.1.2.2.2 2 i))) h7 R L) (by omega)
      -- the masks of one cell
      have mid : ∀ (h : jx_H) (y10 : Int32) (g12 : Value), lo_I xs C h → ra A (gr_o C.1.2.2.2 i) h → ((y10 < 0 ∧ C.1.2.2.2 i = none) ∨ ∃ k, k < C.1.1 ∧ C.1.2.2.2 i = some (C.1.2.2.1 k) ∧ y10 = nI k ∧ fg_ce (C.1.2.2.1 k) = i + 1) → lo_W A xs C h (jx_E 180 101 [.ref 200, .long (mz_mkr (fun c => (C.1.2.2.2 c).isSome) (i + 1)), jx_j, .long (mz_mkr (mm_gap C.1.2.2.2) (i + 1)), jx_j, .int (nI (mz_su (fun c => (mm_gap C.1.2.2.2 c).toNat) i)), .ref A, .int (nI i), .int (nI (i / 8)), .int (nI (i % 8)), .int y10, .int (bI (mm_gap C.1.2.2.2 i)), g12] [.int (bI (mm_gap C.1.2.2.2 i)), .int (nI (mz_su (fun c => (mm_gap C.1.2.2.2 c).toNat) i))] h) (.int 1) (34 + B) := by
        intro h y10 g12 L R hy
        have es : nI (mz_su (fun c => (mm_gap C.1.2.2.2 c).toNat) i) + bI (mm_gap C.1.2.2.2 i) = nI (mz_su (fun c => (mm_gap C.1.2.2.2 c).toNat) (i + 1)) := by
          rw [m3]
          cases mm_gap C.1.2.2.2 i with
          | true => exact nI_1 _
          | false => exact Int32.add_zero _
        rw [b_180_101, es]
        have hy0 := hy
        rcases hy with ⟨q1, q2⟩ | ⟨k, hk, q2, rfl, q4⟩
        · rw [if_pos q1]
          exact lw_wd (fin h y10 g12 L (by rw [gr_none q2]; exact R) hy0) (by omega)
        · have np : ¬ nI k < 0 := nI_pos (by omega)
          rw [if_neg np]
          refine lw_cI (l_136 L D hk) (hA' R) (by omega) (fun h1 L z1 => ?_)
          have R := ra_z R z1
          obtain ⟨c1, c2⟩ := K k hk
          obtain ⟨j0, ec⟩ : ∃ j0, fg_co (C.1.2.2.1 k) = 97 + j0 := ⟨fg_co (C.1.2.2.1 k) - 97, by omega⟩
          have j6 : j0 < 6 := by omega
          rw [ec, show nI (97 + j0) - 97 = nI j0 from nI_sub, gr_rd R j6]
          show lo_W A xs C h1 (jx_st h1 A 102 (nI j0) (.long (mz_mkr (gr_c C.1.2.2.2 (97 + j0)) i ||| mz_bit i)) _) _ _
          rw [gr_wr R q2 ec j6]
          refine lw_set (o := gr_o C.1.2.2.2 (i + 1)) (Nat.le_refl _) R.1 ?_
          refine lw_wd (N := 4 * 2 + (26 + B)) (lw_lp (b := A) (γ := Unit) (fun s _ h => jx_E 180 131 [.ref 200, .long (mz_mkr (fun c => (C.1.2.2.2 c).isSome) (i + 1)), jx_j, .long (mz_mkr (mm_gap C.1.2.2.2) (i + 1)), jx_j, .int (nI (mz_su (fun c => (mm_gap C.1.2.2.2 c).toNat) (i + 1))), .ref A, .int (nI i), .int (nI (i / 8)), .int (nI (i % 8)), .int (nI k), .int (bI (mm_gap C.1.2.2.2 i)), .int (nI s)] [] h) 4 2 (26 + B) _ (fun _ _ h => ra A (gr_o C.1.2.2.2 (i + 1)) h) ?_ ?_ 0 () _ (by decide) (ra_set R) (lo_set L R.1)) (by omega)
          · intro _ h R L
            show lo_W A xs C h (jx_E 180 131 _ _ _) _ _
            rw [b_180_131, if_pos (by decide)]
            exact fin h (nI k) _ L R hy0
          · intro s _ h B' hs R L k2
            show lo_W A xs C h (jx_E 180 131 _ _ _) _ _
            rw [b_180_131, if_neg (show ¬ (4 : Int32) ≤ nI s from nI_ge hs (by decide))]
            refine lw_cI (l_148 L D hk q4 hs) (hA' R) (by omega) (fun h2 L z1 => ?_)
            have R := ra_z R z1
            refine lw_cI (l_176 L D hi hs) (hA' R) (by omega) (fun h3 L z1 => ?_)
            have R := ra_z R z1
            rw [gr_ct1 lg_ct2, nI_1]
            have k3 := lw_wd (k2 () h3 R L) (show B' ≤ 2 + B' - 0 - 2 by omega)
            cases mm_ct C.1.2.2.2 i s == 1 with
            | true =>
              rw [cond_true, if_pos (show bI true = 1 from rfl)]
              exact k3
            | false =>
              rw [cond_false, if_pos (show bI false = 0 from rfl)]
              exact k3
      refine lw_cI (l_147 L (q_rc hi)) (hA' R) (by omega) (fun h1 L z1 => ?_)
      have R := ra_z R z1
      refine lw_cI (l_170 L D hi) (hA' R) (by omega) (fun h2 L z1 => ?_)
      have R := ra_z R z1
      -- both ways to 101
      have go : ∀ (y10 : Int32) (w : Int64), ((y10 < 0 ∧ C.1.2.2.2 i = none) ∨ ∃ k, k < C.1.1 ∧ C.1.2.2.2 i = some (C.1.2.2.1 k) ∧ y10 = nI k ∧ fg_ce (C.1.2.2.1 k) = i + 1) → mz_mkr (fun c => (C.1.2.2.2 c).isSome) i ||| w = mz_mkr (fun c => (C.1.2.2.2 c).isSome) (i + 1) → lo_W A xs C h2 (jx_E 180 71 [.ref 200, .long (mz_mkr (fun c => (C.1.2.2.2 c).isSome) i), jx_j, .long (mz_mkr (mm_gap C.1.2.2.2) i), jx_j, .int (nI (mz_su (fun c => (mm_gap C.1.2.2.2 c).toNat) i)), .ref A, .int (nI i), .int (nI (i / 8)), .int (nI (i % 8)), .int y10, .int (bI (mm_gap C.1.2.2.2 i)), g.2.2.2.2] [.long w, .long (mz_mkr (fun c => (C.1.2.2.2 c).isSome) i)] h2) (.int 1) (35 + B) := by
        intro y10 w hy hw
        have md := lw_wd (mid h2 y10 g.2.2.2.2 L R hy) (show 34 + B ≤ 35 + B by omega)
        rw [m2] at md
        rw [b_180_71, hw]
        cases gp : mm_gap C.1.2.2.2 i with
        | true =>
          rw [gp] at md
          rw [if_neg (by decide), if_neg (by decide)]
          exact md
        | false =>
          rw [gp] at md
          rw [if_pos (by decide), if_pos (by decide), Int64_or0]
          exact md
      rcases lb_neg D (c := some i) (fun d e => by cases e; exact hi) with ⟨q1, q2⟩ | ⟨f, q1, q2, q3, q4⟩
      · have q2 : C.1.2.2.2 i = none := q2
        rw [if_pos q1]
        exact lw_wd (go _ 0 (Or.inl ⟨q1, q2⟩) (by rw [m1, q2, Int64_or0]; rfl)) (by omega)
      · have q1 : C.1.2.2.2 i = some f := q1
        obtain ⟨k, r1, rfl, r3⟩ := q2
        obtain ⟨-, s2, s3⟩ := dr_at D hi q1
        rw [if_neg q4]
        exact lw_wd (go _ (mz_bit i) (Or.inr ⟨k, r1, q1, by rw [q3, r3], fg_on_c s2 s3⟩) (by rw [m1, q1]; rfl)) (by omega)
  obtain ⟨h', e, L2, z⟩ := key
  exact ⟨h', e, L2, by rw [← hA] at z Z0; exact zb_wd (zb_tr Z0 z) (by decide) (Nat.le_refl _)⟩
end LO
end JX
