/-! fragments. -/
section JX
def fp_h (F : Nat → fg_T) (m q : Nat) : Bool := mz_ex (fun k => mz_ex (fun s => fg_ed (F k) s == q) 4) m
def fp_j (F : Nat → fg_T) (k j q : Nat) : Bool := fp_h F k q || mz_ex (fun s => fg_at (F k) s == q) j
def fp_c (P : Nat → Bool) : Nat := mz_su (fun q => (P q).toNat) 16
theorem fp_ins {P : Nat → Bool} {p : Nat} : ∀ n, mz_su (fun q => (P q || (p == q)).toNat) n = mz_su (fun q => (P q).toNat) n + (if p < n ∧ P p = false then 1 else 0)
  | 0 => rfl
  | n + 1 => by
    show mz_su (fun q => (P q || (p == q)).toNat) n + (P n || (p == n)).toNat = mz_su (fun q => (P q).toNat) n + (P n).toNat + _
    rw [fp_ins n]
    by_cases z : p = n
    · subst z
      rw [beq_self_eq_true, Bool.or_true, if_neg (show ¬ (p < p ∧ P p = false) by omega)]
      cases e : P p with
      | true => rw [if_neg (fun q => by cases q.2)]; rfl
      | false => rw [if_pos ⟨Nat.lt_succ_self _, rfl⟩]; rfl
    · rw [beq_eq_false_iff_ne.mpr z, Bool.or_false]
      by_cases y : p < n ∧ P p = false
      · rw [if_pos y, if_pos ⟨by omega, y.2⟩]; omega
      · rw [if_neg y, if_neg (fun q => y ⟨by omega, q.2⟩)]; rfl
theorem fp_c_ins {P : Nat → Bool} {p : Nat} (hp : p < 16) : fp_c (fun q => P q || (p == q)) = fp_c P + (bif P p then 0 else 1) := by
  unfold fp_c
  rw [fp_ins]
  cases e : P p with
  | true => rw [if_neg (fun q => by cases q.2)]; rfl
  | false => rw [if_pos ⟨hp, rfl⟩]; rfl
theorem fp_rot (f : fg_T) (hf : fg_tn f < 4) (q : Nat) : mz_ex (fun s => fg_at f s == q) 4 = mz_ex (fun s => fg_ed f s == q) 4 := by
  show ((((false || (fg_ed f ((0 + 4 - fg_tn f) % 4) == q)) || (fg_ed f ((1 + 4 - fg_tn f) % 4) == q)) || (fg_ed f ((2 + 4 - fg_tn f) % 4) == q)) || (fg_ed f ((3 + 4 - fg_tn f) % 4) == q)) = ((((false || (fg_ed f 0 == q)) || (fg_ed f 1 == q)) || (fg_ed f 2 == q)) || (fg_ed f 3 == q))
  have : fg_tn f = 0 ∨ fg_tn f = 1 ∨ fg_tn f = 2 ∨ fg_tn f = 3 := by omega
  rcases this with e | e | e | e <;> rw [e] <;> simp only [Nat.zero_add, Nat.reduceAdd, Nat.reduceSub, Nat.reduceMod] <;> cases (fg_ed f 0 == q) <;> cases (fg_ed f 1 == q) <;> cases (fg_ed f 2 == q) <;> cases (fg_ed f 3 == q) <;> rfl
theorem fp_4 {F : Nat → fg_T} {k : Nat} (hf : fg_tn (F k) < 4) (q : Nat) : fp_j F k 4 q = fp_h F (k + 1) q := by
  unfold fp_j
  rw [fp_rot _ hf]
  rfl
section LO
variable {xs : List Int32} {C : cl_T} {h : jx_H}
theorem ra_rd {A p : Nat} {P : Nat → Bool} (R : ra A (105, mz_ar 16 (fun q => .int (bI (P q)))) h) (hp : p < 16) (F : Int32 → jx_R) : jx_lI h A 105 (nI p) F = F (bI (P p)) := mz_lI R.2.2 hp (by decide) rfl F
theorem ra_wr {A p : Nat} {P : Nat → Bool} (R : ra A (105, mz_ar 16 (fun q => .int (bI (P q)))) h) (hp : p < 16) (F : jx_H → jx_R) : jx_st h A 105 (nI p) (.int 1) F = F (jx_set h A (105, mz_ar 16 (fun q => .int (bI (P q || (p == q)))))) := by
  rw [mz_st R.2.2 (show 200 ≤ A by have := R.1; omega) hp (by decide)]
  congr 3
  refine mz_ar_cong (fun i _ => ?_)
  by_cases z : i = p
  · subst z; rw [if_pos rfl, beq_self_eq_true, Bool.or_true]; rfl
  · rw [if_neg z, beq_eq_false_iff_ne.mpr (fun q => z q.symm), Bool.or_false]
theorem lg_i31 : ∀ i, i < 31 → ¬ (30 : Int32) ≤ nI i - 1 := by decide +kernel
theorem lg_i1 (i : Nat) : nI i - 1 + 1 = nI (i + 1) - 1 := by rw [nI_pred, Int32.sub_add_cancel]
theorem l_179 (L : lo_I xs C h) (D : dr_I C.1) : lo_V xs C h (jx_A 179 [.ref 200] h) (.int 1) 180 := by
  have n20 := D.2.1
  have l20 := lo_le C.1.1 C.1.2.2.1
  have h7 := L.2.2.1
  rw [a_179, if_pos ⟨by decide, by decide, L.2.2.2⟩]
  generalize hA : h.2.1 = A at *
  have R0 : ra A (105, mz_ar 16 (fun q => .int (bI (fp_h C.1.2.2.1 0 q)))) (jx_add h (105, List.replicate (16 : Int32).toNatClampNeg (.int 0)) (16 : Int32).toNatClampNeg) := by
    have := ra_add (h := h) (o := (105, List.replicate (16 : Int32).toNatClampNeg (.int 0))) (n := (16 : Int32).toNatClampNeg) (by omega)
    rw [hA] at this
    rw [show mz_ar 16 (fun q => Value.int (bI (fp_h C.1.2.2.1 0 q))) = List.replicate (16 : Int32).toNatClampNeg (.int 0) from (mz_ar_rep 16 (Value.int 0)).symm]
    exact this
  have Z0 : zb A 2 h (jx_add h (105, List.replicate (16 : Int32).toNatClampNeg (.int 0)) (16 : Int32).toNatClampNeg) := zb_add (by omega) (by omega) (by decide) (by decide)
  generalize hh : jx_add h (105, List.replicate (16 : Int32).toNatClampNeg (.int 0)) (16 : Int32).toNatClampNeg = hx at *
  have L1 : lo_I xs C hx := hh ▸ lo_add L
  clear hh
  have key : lo_W A xs C hx (jx_E 179 15 [.ref 200, .ref A, .int 0, .int 0, .int 0, .int (-1), jx_j, jx_j, jx_j] [] hx) (.int 1) 178 := by
    refine lw_wd (lw_lp (b := A) (γ := Value × Value × Value) (fun i g h => jx_E 179 15 [.ref 200, .ref A, .int (nI (lo_n (min (i - 1) C.1.1) C.1.2.2.1)), .int (nI (min (i - 1) C.1.1)), .int (nI (fp_c (fp_h C.1.2.2.1 (min (i - 1) C.1.1)))), .int (nI i - 1), g.1, g.2.1, g.2.2] [] h) 31 5 3 _ (fun i _ h => ra A (105, mz_ar 16 (fun q => .int (bI (fp_h C.1.2.2.1 (min (i - 1) C.1.1) q)))) h) ?_ ?_ 0 (jx_j, jx_j, jx_j) hx (by decide) ?_ L1) (by decide)
    · intro g h R L
      show lo_W A xs C h (jx_E 179 15 _ _ _) _ _
      have hA : ∀ {h' : jx_H} {o : jx_Ob}, ra A o h' → A ≤ h'.2.1 := fun q => Nat.le_of_lt q.2.1
      rw [b_179_15, if_pos (show (30 : Int32) ≤ nI 31 - 1 by decide)]
      have m1 : min (31 - 1) C.1.1 = C.1.1 := by omega
      rw [m1] at R ⊢
      refine lw_is L (lw_cI (l_62 L) (hA R) (by decide) (fun h1 L1 z1 => ?_))
      have R := ra_z R z1
      rw [if_pos rfl]
      refine lw_is L1 (lw_cI (l_63 L1) (hA R) (by decide) (fun h2 L2 z2 => ?_))
      have R := ra_z R z2
      rw [if_pos rfl]
      refine lw_cI (l_135n L2 (fun j hj q => by have := (nI_eq (by omega) (by omega)).mp q; omega)) (hA R) (by decide) (fun h3 L3 z3 => ?_)
      have R := ra_z R z3
      rw [if_pos rfl]
      refine lw_cI (l_135n L3 (fun j hj q => mz_nIne (show j < 2 ^ 31 by omega) q.symm)) (hA R) (by decide) (fun h4 L4 z4 => ?_)
      have R := ra_z R z4
      rw [if_pos rfl]
      refine lw_is L4 (lw_cI (l_71 L4) (hA R) (by decide) (fun h5 L5 z5 => ?_))
      have R := ra_z R z5
      rw [if_pos (show nI (mm_dp C.1) = nI (fp_c (fp_h C.1.2.2.1 C.1.1)) from rfl)]
      refine lw_cI (l_138n L5 D (dr_m1 D)) (hA R) (by decide) (fun h6 L6 z6 => ?_)
      rw [if_pos rfl]
      exact lw_rt L6 _
    · intro i g h B hi R L kk
      show lo_W A xs C h (jx_E 179 15 _ _ _) _ _
      have hA : ∀ {h' : jx_H} {o : jx_Ob}, ra A o h' → A ≤ h'.2.1 := fun q => Nat.le_of_lt q.2.1
      rw [b_179_15, if_neg (lg_i31 i hi)]
      by_cases hk : 1 ≤ i ∧ i - 1 < C.1.1
      · obtain ⟨k, rfl⟩ : ∃ k, i = k + 1 := ⟨i - 1, by omega⟩
        have hk : k < C.1.1 := by have := hk.2; omega
        have m1 : min (k + 1 - 1) C.1.1 = k := by omega
        have m2 : min (k + 1 + 1 - 1) C.1.1 = k + 1 := by omega
        rw [m1] at R ⊢
        rw [m2, ← lg_i1] at kk
        rw [nI_pred] at kk ⊢
        have O := D.2.2.1 k hk
        have c1 := O.2.1
        have t4 := O.2.2.2.1
        refine lw_is L (lw_cI (l_65 L D hk) (hA R) (by omega) (fun h1 L1 z1 => ?_))
        have R := ra_z R z1
        rw [if_neg (by decide)]
        refine lw_cI (l_136 L1 D hk) (hA R) (by omega) (fun h2 L2 z2 => ?_)
        have R := ra_z R z2
        rw [if_neg (nI_pos (by omega)), b_179_59, if_pos rfl]
        refine lw_cI (l_137 L2 D hk) (hA R) (by omega) (fun h3 L3 z3 => ?_)
        have R := ra_z R z3
        rw [if_neg (nI_pos (by omega)), if_pos rfl]
        refine lw_cI (l_139 L3 D hk) (hA R) (by omega) (fun h4 L4 z4 => ?_)
        have R := ra_z R z4
        rw [if_neg (show ¬ bI (fg_on (C.1.2.2.1 k)) < 0 by cases fg_on (C.1.2.2.1 k) <;> decide), b_179_97, if_pos rfl]
        refine lw_cI (l_138 L4 D hk (show 0 < 4 by decide)) (hA R) (by omega) (fun h5 L5 z5 => ?_)
        have R := ra_z R z5
        have e16 := fg_at16 O 0
        rw [if_neg (nI_pos (show fg_at (C.1.2.2.1 k) 0 < 2 ^ 31 by omega)), if_pos rfl]
        -- behind the edges
        have tail : ∀ (h : jx_H) (g8 : Value), lo_I xs C h → ra A (105, mz_ar 16 (fun q => .int (bI (fp_h C.1.2.2.1 (k + 1) q)))) h → lo_W A xs C h (jx_E 179 174 [.ref 200, .ref A, .int (nI (lo_n k C.1.2.2.1)), .int (nI k + 1), .int (nI (fp_c (fp_h C.1.2.2.1 (k + 1)))), .int (nI k), .int 1, .int (nI 4), g8] [] h) (.int 1) (5 + B) := by
          intro h g8 L R
          rw [b_179_174, if_neg (by decide)]
          refine lw_is L (lw_cI (l_69 L D hk) (hA R) (by omega) (fun h1 L1 z1 => ?_))
          have R := ra_z R z1
          have e1 : lo_n (k + 1) C.1.2.2.1 = lo_n k C.1.2.2.1 + (!fg_on (C.1.2.2.1 k)).toNat := rfl
          cases on : fg_on (C.1.2.2.1 k) with
          | false =>
            rw [on] at e1
            have off : (∀ k', k' < C.1.1 → nI k ≠ nI k') ∨ ∃ k', k' < C.1.1 ∧ nI k = nI k' ∧ fg_on (C.1.2.2.1 k') = false := Or.inr ⟨k, hk, rfl, on⟩
            rw [if_pos (by decide)]
            refine lw_cI (l_135 L1 D hk on) (hA R) (by omega) (fun h2 L2 z2 => ?_)
            have R := ra_z R z2
            rw [if_pos rfl]
            refine lw_cI (l_140n L2 D off) (hA R) (by omega) (fun h3 L3 z3 => ?_)
            have R := ra_z R z3
            rw [if_pos rfl]
            refine lw_cI (l_148n L3 D off) (hA R) (by omega) (fun h4 L4 z4 => ?_)
            have R := ra_z R z4
            rw [if_pos rfl]
            refine lw_cI (l_149n L4 D off) (hA R) (by omega) (fun h5 L5 z5 => ?_)
            have R := ra_z R z5
            rw [if_pos rfl]
            refine lw_cI (l_155n L5 D off) (hA R) (by omega) (fun h6 L6 z6 => ?_)
            have R := ra_z R z6
            rw [if_pos rfl]
            refine lw_cL (l_164n L6 D off) (hA R) (by omega) (fun h7 L7 z7 => ?_)
            have R := ra_z R z7
            rw [if_pos (by decide)]
            have k2 := kk (.int 1, .int (nI 4), g8) h7 R L7
            rw [e1, nI_1] at k2
            rw [nI_1, nI_1]
            exact lw_wd k2 (by omega)
          | true =>
            rw [on] at e1
            have e2 : fg_ce (C.1.2.2.1 k) = mm_cl (C.1.2.2.1 k) + 1 := fg_on_c on rfl
            obtain ⟨p1, p2⟩ := D.1.1 k hk on
            rw [if_neg (by decide), b_179_264, if_neg (by decide)]
            refine lw_cI (l_140 L1 D hk e2) (hA R) (by omega) (fun h2 L2 z2 => ?_)
            have R := ra_z R z2
            refine lw_cI (l_140 L2 D hk e2) (hA R) (by omega) (fun h3 L3 z3 => ?_)
            have R := ra_z R z3
            rw [lg_div _ p1, lg_mod _ p1]
            refine lw_cI (l_147 L3 (q_rc p1)) (hA R) (by omega) (fun h4 L4 z4 => ?_)
            have R := ra_z R z4
            have e3 : lb C.1 (some (mm_cl (C.1.2.2.1 k))) = nI k := by
              show (match C.1.2.2.2 (mm_cl (C.1.2.2.1 k)) with | none => (-13 : Int32) | some f => nI (fg_id f)) = nI k
              rw [p2]
              show nI (fg_id (C.1.2.2.1 k)) = nI k
              rw [D.2.2.2 k hk]
            rw [e3, if_pos rfl]
            refine lw_cI (l_138x L4 D hk (by decide)) (hA R) (by omega) (fun h5 L5 z5 => ?_)
            have R := ra_z R z5
            rw [if_pos rfl]
            refine lw_cI (l_138x L5 D hk (by decide)) (hA R) (by omega) (fun h6 L6 z6 => ?_)
            have R := ra_z R z6
            rw [if_pos rfl]
            have k2 := kk (.int 1, .int (nI 4), g8) h6 R L6
            rw [e1, nI_1] at k2
            rw [nI_1]
            exact lw_wd k2 (by omega)
        have e0 : fp_h C.1.2.2.1 k = fp_j C.1.2.2.1 k 0 := funext (fun q => (Bool.or_false _).symm)
        rw [e0] at R ⊢
        -- the edges
        refine lw_wd (N := 4 * 0 + (5 + B)) (lw_lp (b := A) (γ := Value) (fun j g h => jx_E 179 125 [.ref 200, .ref A, .int (nI (lo_n k C.1.2.2.1)), .int (nI k + 1), .int (nI (fp_c (fp_j C.1.2.2.1 k j))), .int (nI k), .int 1, .int (nI j), g] [] h) 4 0 (5 + B) _ (fun j _ h => ra A (105, mz_ar 16 (fun q => .int (bI (fp_j C.1.2.2.1 k j q)))) h) ?_ ?_ 0 g.2.2 h5 (by decide) ?_ L5) (by omega)
        · intro g9 h R L
          show lo_W A xs C h (jx_E 179 125 _ _ _) _ _
          rw [b_179_125, if_pos (by decide)]
          have ef : fp_j C.1.2.2.1 k 4 = fp_h C.1.2.2.1 (k + 1) := funext (fun q => fp_4 t4 q)
          rw [ef] at R ⊢
          exact tail h g9 L R
        · intro j g9 h B' hj R L k2
          show lo_W A xs C h (jx_E 179 125 _ _ _) _ _
          rw [b_179_125, if_neg (show ¬ (4 : Int32) ≤ nI j from nI_ge hj (by decide)), if_neg (by decide)]
          refine lw_cI (l_138 L D hk hj) (hA R) (by omega) (fun h6 L6 z6 => ?_)
          have R := ra_z R z6
          have p16 := fg_at16 O j
          have ej : fp_j C.1.2.2.1 k (j + 1) = fun q => fp_j C.1.2.2.1 k j q || (fg_at (C.1.2.2.1 k) j == q) := funext (fun q => by
            unfold fp_j
            rw [Bool.or_assoc]
            rfl)
          have k3 := k2 (.int (nI (fg_at (C.1.2.2.1 k) j))) (jx_set h6 A (105, mz_ar 16 (fun q => .int (bI (fp_j C.1.2.2.1 k (j + 1) q))))) (ra_set R) (lo_set L6 R.1)
          rw [ej, fp_c_ins p16, nI_1] at k3
          rw [ra_rd R p16, bI_if, nI_1, nI_1]
          cases e : fp_j C.1.2.2.1 k j (fg_at (C.1.2.2.1 k) j) with
          | true =>
            rw [e] at k3
            show lo_W A xs C h6 (jx_st h6 A 105 _ _ _) _ _
            rw [ra_wr R p16, Int32.add_zero]
            refine lw_wd (N := B') (lw_set (o := (105, mz_ar 16 (fun q => .int (bI (fp_j C.1.2.2.1 k j q || (fg_at (C.1.2.2.1 k) j == q)))))) (Nat.le_refl _) R.1 ?_) (by omega)
            exact k3
          | false =>
            rw [e] at k3
            show lo_W A xs C h6 (jx_st h6 A 105 _ _ _) _ _
            rw [ra_wr R p16, nI_1]
            refine lw_wd (N := B') (lw_set (o := (105, mz_ar 16 (fun q => .int (bI (fp_j C.1.2.2.1 k j q || (fg_at (C.1.2.2.1 k) j == q)))))) (Nat.le_refl _) R.1 ?_) (by omega)
            exact k3
        · exact R
      · have hv : ∀ k, k < C.1.1 → nI i - 1 ≠ nI k := fun k hk' q => by
          rcases Nat.eq_zero_or_pos i with z | z
          · subst z
            exact mz_nIne (show k < 2 ^ 31 by omega) (q.symm.trans (by decide))
          · rw [show nI i = nI (i - 1 + 1) by rw [show i - 1 + 1 = i by omega], nI_pred] at q
            have := (nI_eq (by omega) (by omega)).mp q
            exact hk ⟨z, by omega⟩
        have m2 : min (i + 1 - 1) C.1.1 = min (i - 1) C.1.1 := by omega
        rw [m2, ← lg_i1] at kk
        refine lw_is L (lw_cI (l_65n L D hv) (hA R) (by omega) (fun h1 L1 z1 => ?_))
        have R := ra_z R z1
        rw [if_pos rfl]
        refine lw_cI (l_136n L1 D hv) (hA R) (by omega) (fun h2 L2 z2 => ?_)
        have R := ra_z R z2
        rw [if_pos (by decide), b_179_59, if_pos rfl]
        refine lw_cI (l_137n L2 D hv) (hA R) (by omega) (fun h3 L3 z3 => ?_)
        have R := ra_z R z3
        rw [if_pos (by decide), if_pos rfl]
        refine lw_cI (l_139n L3 D hv) (hA R) (by omega) (fun h4 L4 z4 => ?_)
        have R := ra_z R z4
        rw [if_pos (by decide), b_179_97, if_pos rfl]
        refine lw_cI (l_138n L4 D hv) (hA R) (by omega) (fun h5 L5 z5 => ?_)
        have R := ra_z R z5
        rw [if_pos (by decide), if_pos rfl, b_179_125, if_neg (by decide), if_pos rfl, b_179_174, if_pos rfl, b_179_264, if_pos rfl, Int32.add_zero]
        exact lw_wd (kk (.int 0, .int 0, g.2.2) h5 R L5) (by omega)
    · exact R0
  obtain ⟨h', e, L2, z⟩ := key
  exact ⟨h', e, L2, by rw [← hA] at z Z0; exact zb_wd (zb_tr Z0 z) (by decide) (Nat.le_refl _)⟩
end LO
end JX
