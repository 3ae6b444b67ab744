/-! isGuessed, guesses. -/
section JX
section LO
variable {xs : List Int32} {C : cl_T} {h : jx_H}
theorem bI_if {b : Bool} {α : Type} (x y : α) : (if bI b = 0 then x else y) = bif b then y else x := by
  cases b <;> rfl
theorem l_182 (L : lo_I xs C h) (D : dr_I C.1) {c : Nat} (hc : c < 64) (g : mm_gap C.1.2.2.2 c = true) : lo_V xs C h (jx_A 182 [.ref 200, .int (nI (c / 8)), .int (nI (c % 8))] h) (.int 1) 3200 := by
  have n20 := D.2.1
  have l20 := lo_le C.1.1 C.1.2.2.1
  obtain ⟨b, hb⟩ := lg_Bx C.1 c
  rw [a_182]
  -- the ranks
  have ranks : ∀ (h : jx_H), lo_I xs C h → lo_V xs C h (jx_E 182 45 [.ref 200, .int (nI (c / 8)), .int (nI (c % 8)), .int (nI (mm_nc C.1.2.2.2 c)), .int (nI (lo_n C.1.1 C.1.2.2.1)), .int 0, jx_j, jx_j, jx_j, jx_j] [] h) (.int 1) 3190 := by
    intro h L
    refine lo_wd (lo_lp (γ := Value × Value × Value × Value) (fun i g h => jx_E 182 45 [.ref 200, .int (nI (c / 8)), .int (nI (c % 8)), .int (nI (mm_nc C.1.2.2.2 c)), .int (nI (lo_n C.1.1 C.1.2.2.1)), .int (nI i), g.1, g.2.1, g.2.2.1, g.2.2.2] [] h) (lo_n C.1.1 C.1.2.2.1) 97 1125 _ (fun _ _ => True) ?_ ?_ 0 (jx_j, jx_j, jx_j, jx_j) h (Nat.zero_le _) trivial L) (by omega)
    · intro g9 h _ L
      show lo_V xs C h (jx_E 182 45 _ _ _) _ _
      rw [b_182_45, if_pos (nI_le (Nat.le_refl _) (by omega))]
      refine lo_cI (l_150 L hc g) (by decide) (fun h1 L1 => ?_)
      rw [if_pos rfl]
      refine lo_cI (l_153 L1 D hc g hb) (by decide) (fun h2 L2 => ?_)
      refine lo_cI (l_175 L2 D hc hb) (by decide) (fun h3 L3 => ?_)
      rw [if_pos rfl]
      refine lo_cI (l_154x L3 hc g (fun k hk lk => ?_)) (by decide) (fun h4 L4 => ?_)
      · have := rk_n (tw := mm_tws C.1 c) hk lk
        exact fun z => by have := (nI_eq (by omega) (by omega)).mp z; omega
      rw [if_pos rfl]
      refine lo_cI (l_154x L4 hc g (fun k hk lk => ?_)) (by decide) (fun h5 L5 => ?_)
      · have := rk_n (tw := mm_tws C.1 c) hk lk
        exact mz_nIne (by omega)
      rw [if_pos rfl]
      exact lo_rt L5 _
    · intro i g9 h B hi _ L kk
      show lo_V xs C h (jx_E 182 45 _ _ _) _ _
      rw [b_182_45, if_neg (nI_ge hi (by omega))]
      obtain ⟨k, h1, h2, h3, h4⟩ := l_64 L D hi
      refine lo_is L (lo_cI h4 (by omega) (fun h5 L5 => ?_))
      obtain ⟨r, r1, r2, r3⟩ := rk_ex (tw := mm_tws C.1 c) hi
      have idr : fg_id (C.1.2.2.1 r) = r := D.2.2.2 r r1
      -- behind the weights
      have rest : ∀ (h : jx_H) (w by_ : Int32), lo_I xs C h → ¬ by_ < 0 → (by_ = 0 → ¬ nI (fg_id (C.1.2.2.1 r)) < w) → lo_V xs C h (jx_E 182 157 [.ref 200, .int (nI (c / 8)), .int (nI (c % 8)), .int (nI (mm_nc C.1.2.2.2 c)), .int (nI (lo_n C.1.1 C.1.2.2.1)), .int (nI i), .int (nI (fg_id (C.1.2.2.1 k))), .int (nI (fg_id (C.1.2.2.1 r))), .int w, g9.2.2.2] [.int by_] h) (.int 1) (25 + B) := by
        intro h w by_ L hb1 hb2
        rw [b_182_157]
        refine lo_cI (l_152 L D hc g h1 h2) (by omega) (fun h1' L1 => ?_)
        refine lo_cI (l_173 L1 D (dr_pd D h1) hc) (by omega) (fun h2' L2 => ?_)
        rw [if_pos rfl, if_neg (nI_pos (by omega)), if_neg hb1, nI_1]
        have fin : ∀ (u v : Value), lo_V xs C h2' (jx_cI jx_A 151 [.ref 200, .int (nI (fg_id (C.1.2.2.1 k))), .int (nI (c / 8)), .int (nI (c % 8)), .int 4] h2' (fun y6 h5 => if y6 = (-112) then (jx_E 182 45 [.ref 200, .int (nI (c / 8)), .int (nI (c % 8)), .int (nI (mm_nc C.1.2.2.2 c)), .int (nI (lo_n C.1.1 C.1.2.2.1)), .int (nI (i + 1)), .int (nI (fg_id (C.1.2.2.1 k))), .int (nI (fg_id (C.1.2.2.1 r))), .int w, .int by_] [] h5) else (some (.inl (some (.int 0)), h5)))) (.int 1) (25 + B - 0 - 24) := by
          intro u v
          refine lo_cI (l_151x L2 D hc g h1 h2) (by omega) (fun h3' L3 => ?_)
          rw [if_pos rfl]
          exact lo_wd (kk (.int (nI (fg_id (C.1.2.2.1 k))), .int (nI (fg_id (C.1.2.2.1 r))), .int w, .int by_) h3' trivial L3) (by omega)
        by_cases z : by_ = 0
        · rw [if_pos z, if_neg (hb2 z)]
          exact fin .null .null
        · rw [if_neg z]
          exact fin .null .null
      -- the turns
      refine lo_wd (N := 4 * 4 + (81 + B)) (lo_lp (γ := Unit) (fun t _ h => jx_E 182 63 [.ref 200, .int (nI (c / 8)), .int (nI (c % 8)), .int (nI (mm_nc C.1.2.2.2 c)), .int (nI (lo_n C.1.1 C.1.2.2.1)), .int (nI i), .int (nI (fg_id (C.1.2.2.1 k))), .int (nI t), g9.2.2.1, g9.2.2.2] [] h) 4 4 (81 + B) _ (fun _ _ => True) ?_ ?_ 0 () h5 (by decide) trivial L5) (by omega)
      · intro _ h _ L
        show lo_V xs C h (jx_E 182 63 _ _ _) _ _
        rw [b_182_63, if_pos (by decide)]
        refine lo_cI (l_154 L D hc g r1 r2 r3) (by omega) (fun h6 L6 => ?_)
        by_cases z : i = 0
        · subst z
          rw [if_pos (by decide), b_182_129, if_pos (by decide)]
          exact lo_wd (rest h6 (-1) 1 L6 (by decide) (fun z => by cases z)) (by omega)
        · have nz : ¬ nI i = 0 := fun q => z ((nI_eq (b := 0) (by omega) (by decide)).mp q)
          rw [if_neg nz]
          obtain ⟨s, s1, s2, s3⟩ := rk_ex (tw := mm_tws C.1 c) (show i - 1 < lo_n C.1.1 C.1.2.2.1 by omega)
          have ids : fg_id (C.1.2.2.1 s) = s := D.2.2.2 s s1
          rw [show nI i - 1 = nI (i - 1) by rw [show nI i = nI (i - 1 + 1) by rw [show i - 1 + 1 = i by omega]]; exact nI_pred _]
          refine lo_cI (l_154 L6 D hc g s1 s2 s3) (by omega) (fun h7 L7 => ?_)
          rw [b_182_129, if_neg nz]
          refine lo_cI (l_174 L7 D (dr_pd D s1) hc) (by omega) (fun h8 L8 => ?_)
          refine lo_cI (l_174 L8 D (dr_pd D r1) hc) (by omega) (fun h9 L9 => ?_)
          have bet := rk_le (n := C.1.1) (F := C.1.2.2.1) (tw := mm_tws C.1 c) s1 r1 s2 r2 (by omega)
          have bet : mm_tw C.1.2.2.2 (C.1.2.2.1 r) c < mm_tw C.1.2.2.2 (C.1.2.2.1 s) c ∨ (mm_tw C.1.2.2.2 (C.1.2.2.1 s) c = mm_tw C.1.2.2.2 (C.1.2.2.1 r) c ∧ s < r) := bet
          have b1 := mm_tw_b C.1.2.2.2 (C.1.2.2.1 s) c
          have b2 := mm_tw_b C.1.2.2.2 (C.1.2.2.1 r) c
          rw [zI_sub]
          refine lo_wd (rest h9 (nI (fg_id (C.1.2.2.1 s))) _ L9 (fun q => ?_) (fun q => ?_)) (by omega)
          · have := (zI_lt (b := 0) (by omega) (by omega) (by omega) (by omega)).mp q
            omega
          · have := (zI_eq (b := 0) (by omega) (by omega) (by omega) (by omega)).mp q
            rw [idr, ids]
            exact nI_nlt (by omega) (by omega)
      · intro t _ h B' ht _ L k2
        show lo_V xs C h (jx_E 182 63 _ _ _) _ _
        rw [b_182_63, if_neg (show ¬ (4 : Int32) ≤ nI t from nI_ge ht (by decide))]
        refine lo_cI (l_151 L D hc g h1 h2 ht) (by omega) (fun h6 L6 => ?_)
        refine lo_cI (l_172 L6 D (dr_pd D h1) hc ht) (by omega) (fun h7 L7 => ?_)
        rw [if_pos rfl, nI_1]
        exact lo_wd (k2 () h7 trivial L7) (by omega)
  -- the neighbours
  refine lo_wd (lo_lp (γ := Unit) (fun i _ h => jx_E 182 5 [.ref 200, .int (nI (c / 8)), .int (nI (c % 8)), .int (nI (mz_su (fun s => ((mz_bs c s).bind C.1.2.2.2).isSome.toNat) i)), .int (nI i), jx_j, jx_j, jx_j, jx_j, jx_j] [] h) 4 1 3190 _ (fun _ _ => True) ?_ ?_ 0 () h (by decide) trivial L) (by decide)
  · intro _ h _ L
    show lo_V xs C h (jx_E 182 5 _ _ _) _ _
    rw [b_182_5, if_pos (by decide)]
    refine lo_is L (lo_cI (l_63 L) (by decide) (fun h1 L1 => ?_))
    exact ranks h1 L1
  · intro i _ h B hi _ L kk
    show lo_V xs C h (jx_E 182 5 _ _ _) _ _
    rw [b_182_5, if_neg (show ¬ (4 : Int32) ≤ nI i from nI_ge hi (by decide))]
    have e1 : mz_su (fun s => ((mz_bs c s).bind C.1.2.2.2).isSome.toNat) (i + 1) = mz_su (fun s => ((mz_bs c s).bind C.1.2.2.2).isSome.toNat) i + ((mz_bs c i).bind C.1.2.2.2).isSome.toNat := rfl
    refine lo_cI (l_169 L hc hi) (by omega) (fun h1 L1 => ?_)
    have k2 := kk () h1 trivial L1
    rw [e1] at k2
    rcases lb_neg D (lb_bs hc hi) with ⟨q1, q2⟩ | ⟨f, q1, q2, q3, q4⟩
    · rw [if_pos q1, nI_1, Int32.add_zero]; rw [q2] at k2; exact lo_wd k2 (by omega)
    · rw [if_neg q4, nI_1, nI_1]; rw [q1] at k2; exact lo_wd k2 (by omega)
theorem dr_m1 {M : mm_T} (D : dr_I M) : ∀ k, k < M.1 → (-1 : Int32) ≠ nI k := fun k hk q => mz_nIne (show k < 2 ^ 31 by have := D.2.1; omega) q.symm
theorem q_out_y (y : Int32) (x : Int32) (hy : ∀ i, i < 8 → y ≠ nI i) : q_cell y x none := Or.inl (fun i hi => hy i (by omega))
theorem q_out_x (y : Int32) (x : Int32) (hx : ∀ i, i < 8 → x ≠ nI i) : q_cell y x none := Or.inr (fun i hi => hx i (by omega))
theorem l_181 (L : lo_I xs C h) (D : dr_I C.1) : lo_V xs C h (jx_A 181 [.ref 200] h) (.int 1) 205100 := by
  rw [a_181]
  refine lo_wd (lo_lp (γ := Value × Value) (fun i g h => jx_E 181 2 [.ref 200, .int (nI i), g.1, g.2] [] h) 64 3204 4 _ (fun _ _ => True) ?_ ?_ 0 (jx_j, jx_j) h (by decide) trivial L) (by decide)
  · intro g h _ L
    show lo_V xs C h (jx_E 181 2 _ _ _) _ _
    rw [b_181_2, if_pos (by decide)]
    refine lo_cI (l_151n L D (dr_m1 D)) (by decide) (fun h1 L1 => ?_)
    rw [if_pos rfl]
    refine lo_cI (l_152n L1 D (dr_m1 D)) (by decide) (fun h2 L2 => ?_)
    rw [if_pos rfl]
    refine lo_cI (l_153n L2 (q_out_y 8 0 (by decide))) (by decide) (fun h3 L3 => ?_)
    rw [if_pos rfl]
    refine lo_cI (l_154n L3 (q_out_x 0 (-1) (by decide))) (by decide) (fun h4 L4 => ?_)
    rw [if_pos rfl]
    exact lo_rt L4 _
  · intro i g h B hi _ L kk
    show lo_V xs C h (jx_E 181 2 _ _ _) _ _
    rw [b_181_2, if_neg (show ¬ (64 : Int32) ≤ nI i from nI_ge hi (by decide)), lg_div i hi, lg_mod i hi, nI_1]
    refine lo_cI (l_170 L D hi) (by omega) (fun h1 L1 => ?_)
    rw [bI_if]
    cases gg : mm_gap C.1.2.2.2 i with
    | true =>
      refine lo_cI (l_182 L1 D hi gg) (by omega) (fun h2 L2 => ?_)
      rw [if_neg (by decide)]
      exact lo_wd (kk (.int (nI (i / 8)), .int (nI (i % 8))) h2 trivial L2) (by omega)
    | false =>
      refine lo_cI (l_153u L1 hi gg) (by omega) (fun h2 L2 => ?_)
      rw [if_pos rfl]
      refine lo_cI (l_154u L2 hi gg) (by omega) (fun h3 L3 => ?_)
      rw [if_pos rfl]
      exact lo_wd (kk (.int (nI (i / 8)), .int (nI (i % 8))) h3 trivial L3) (by omega)
end LO
end JX
