/-! groups. -/
section JX
def gw_c (m : Int64) : Nat := mz_su (fun c => (mb m c).toNat) 64
section GW
variable {o : Nat → Option fg_T} {s0 : Nat}
theorem gw_up {m t : Int64} (h : ∀ c, c < 64 → mb m c = true → mb t c = true) (ne : t ≠ m) : gw_c m < gw_c t := by
  by_cases z : ∃ c, c < 64 ∧ mb t c = true ∧ mb m c = false
  · obtain ⟨c, hc, h1, h2⟩ := z
    have e := mz_su_rm (Q := fun d => mb t d) (c := c) (m := 64) hc h1
    have := mz_inj_le (P := fun d => mb m d) (fun d => d) (n := 64) (m := 64) (Q := fun d => mb t d && !(d == c)) (fun d hd q => ⟨hd, by
      show (mb t d && !(d == c)) = true
      rw [h d hd q, beq_eq_false_iff_ne.mpr (fun y => by subst y; rw [h2] at q; cases q)]; rfl⟩) (fun _ _ _ _ _ _ y => y)
    unfold gw_c
    omega
  · exfalso
    refine ne (mb_ext (fun c hc => ?_))
    cases e1 : mb t c with
    | true =>
      cases e2 : mb m c with
      | true => rfl
      | false => exact absurd ⟨c, hc, e1, e2⟩ z
    | false =>
      cases e2 : mb m c with
      | true => rw [h c hc e2] at e1; cases e1
      | false => rfl
theorem gw_fix {m : Int64} (hs : s0 < 64) (T : gw_T o s0 m m 64 0) : m = mm_gk o s0 := by
  refine mz_mk_of (fun c hc => ?_)
  rw [Bool.eq_iff_iff, mm_gb_iff]
  refine ⟨fun h => T.1.2 c hc h, fun h => ?_⟩
  exact (h (fun c => c < 64 ∧ mb m c = true) ⟨hs, T.1.1⟩ (fun d t d' hd ht hS hc hb => ⟨mz_bs64 hd ht hb, T.2.2.1 d t d' hd ht hS.2 hc hb⟩)).2
theorem gw_20 {M : mm_T} (D : dr_I M) {m : Int64} (hs : (M.2.2.2 s0).isSome = true) (P : gw_P M.2.2.2 s0 m) : gw_c m ≤ 20 := by
  have h1 := mz_inj_le (P := fun d => mb m d) (fun d => d) (n := 64) (m := 64) (Q := fun d => (M.2.2.2 d).isSome) (fun d hd q => ⟨hd, mm_re_oc hs (P.2 d hd q)⟩) (fun _ _ _ _ _ _ y => y)
  have h2 := mm_oc_n D.1
  have h3 := mm_on_lo M
  have h4 := D.2.1
  have h5 : mm_on M = mz_su (fun k => (fg_on (M.2.2.1 k)).toNat) M.1 := rfl
  unfold gw_c
  omega
end GW
section LO
variable {xs : List Int32} {C : cl_T}
theorem l_Gs (D : dr_I C.1) {s0 : Nat} (hs : s0 < 64) (ho : (C.1.2.2.2 s0).isSome = true) {m B : Nat} {k : Int64} {h : jx_H} (hm : 300 ≤ m ∧ m < 330) (L : lo_I xs C h) (P : gw_P C.1.2.2.2 s0 k)
    (more : ∀ (t : Int64) (h : jx_H), lo_I xs C h → gw_T C.1.2.2.2 s0 k t 64 0 → t ≠ k → lo_V xs C h (jx_A (m + 1) [.ref 200, .long t] h) (.long (mm_gk C.1.2.2.2 s0)) B) : lo_V xs C h (jx_A m [.ref 200, .long k] h) (.long (mm_gk C.1.2.2.2 s0)) (512 + B) := by
  rw [a_G m hm]
  refine lo_wd (lo_lp (γ := Int64) (fun i t h => jx_E m 5 [.ref 200, .long k, jx_j, .long t, jx_j, .int (nI i)] [] h) 64 8 B _ (fun i t => gw_T C.1.2.2.2 s0 k t i 0) ?_ ?_ 0 k h (by decide) (gw_0 P) L) (by omega)
  · intro t h T L
    show lo_V xs C h (jx_E m 5 _ _ _) _ _
    rw [b_G_5 m hm, if_pos (by decide)]
    by_cases z : t = k
    · subst z
      rw [if_pos (lg_rf _), gw_fix hs T]
      exact lo_rt L _
    · rw [if_neg (fun q => z (lg_0.mp q))]
      exact lo_cL (more t h L T z) (Nat.le_refl _) (fun h1 L1 => lo_rt L1 _)
  · intro i t h B' hi T L kk
    show lo_V xs C h (jx_E m 5 _ _ _) _ _
    rw [b_G_5 m hm, if_neg (show ¬ (64 : Int32) ≤ nI i from nI_ge hi (by decide)), bt_1 k hi, lg_div i hi, lg_mod i hi, nI_1]
    cases e : mb k i with
    | false =>
      rw [cond_false]
      exact lo_wd (kk t h (gw_no T e) L) (by omega)
    | true =>
      rw [cond_true]
      have sel : ∀ (j : Nat) (X : Int64 → jx_R) (h : jx_H) (N : Nat), lo_V xs C h (X (bif mm_ct C.1.2.2.2 i j == 1 then gw_w i j else 0)) (.long (mm_gk C.1.2.2.2 s0)) N → lo_V xs C h (if lg_k (mm_ct C.1.2.2.2 i j) = 1 then X (gw_w i j) else X 0) (.long (mm_gk C.1.2.2.2 s0)) N := by
        intro j X h N H
        rw [gr_ct1 lg_ct2]
        revert H
        cases mm_ct C.1.2.2.2 i j == 1 <;> exact id
      have g3 : ∀ (h : jx_H) (v u w : Int64), lo_I xs C h → gw_T C.1.2.2.2 s0 k (u ||| w) i 3 → lo_V xs C h (jx_E m 119 [.ref 200, .long k, jx_j, .long v, jx_j, .int (nI i)] [.long w, .long u] h) (.long (mm_gk C.1.2.2.2 s0)) (2 + B') := by
        intro h v u w L T
        rw [b_G_119 m hm, lg_div i hi, lg_mod i hi]
        refine lo_cI (l_176 L D hi (show 3 < 4 by decide)) (by omega) (fun h1 L1 => ?_)
        rw [nI_1]
        exact sel 3 (fun z => jx_E m 5 [.ref 200, .long k, jx_j, .long ((u ||| w) ||| z), jx_j, .int (nI (i + 1))] [] h1) h1 _ (lo_wd (kk _ h1 (gw_4 (gw_s hi (show 3 < 4 by decide) T e)) L1) (by omega))
      have g2 : ∀ (h : jx_H) (v u w : Int64), lo_I xs C h → gw_T C.1.2.2.2 s0 k (u ||| w) i 2 → lo_V xs C h (jx_E m 86 [.ref 200, .long k, jx_j, .long v, jx_j, .int (nI i)] [.long w, .long u] h) (.long (mm_gk C.1.2.2.2 s0)) (4 + B') := by
        intro h v u w L T
        rw [b_G_86 m hm, lg_div i hi, lg_mod i hi]
        refine lo_cI (l_176 L D hi (show 2 < 4 by decide)) (by omega) (fun h1 L1 => ?_)
        exact sel 2 (fun z => jx_E m 119 [.ref 200, .long k, jx_j, .long (u ||| w), jx_j, .int (nI i)] [.long z, .long (u ||| w)] h1) h1 _ (lo_wd (g3 h1 _ _ _ L1 (gw_s hi (show 2 < 4 by decide) T e)) (by omega))
      have g1 : ∀ (h : jx_H) (v u w : Int64), lo_I xs C h → gw_T C.1.2.2.2 s0 k (u ||| w) i 1 → lo_V xs C h (jx_E m 54 [.ref 200, .long k, jx_j, .long v, jx_j, .int (nI i)] [.long w, .long u] h) (.long (mm_gk C.1.2.2.2 s0)) (6 + B') := by
        intro h v u w L T
        rw [b_G_54 m hm, lg_div i hi, lg_mod i hi]
        refine lo_cI (l_176 L D hi (show 1 < 4 by decide)) (by omega) (fun h1 L1 => ?_)
        exact sel 1 (fun z => jx_E m 86 [.ref 200, .long k, jx_j, .long (u ||| w), jx_j, .int (nI i)] [.long z, .long (u ||| w)] h1) h1 _ (lo_wd (g2 h1 _ _ _ L1 (gw_s hi (show 1 < 4 by decide) T e)) (by omega))
      refine lo_cI (l_176 L D hi (show 0 < 4 by decide)) (by omega) (fun h1 L1 => ?_)
      exact sel 0 (fun z => jx_E m 54 [.ref 200, .long k, jx_j, .long t, jx_j, .int (nI i)] [.long z, .long t] h1) h1 _ (lo_wd (g1 h1 _ _ _ L1 (gw_s hi (show 0 < 4 by decide) T e)) (by omega))
theorem l_G (D : dr_I C.1) {s0 : Nat} (hs : s0 < 64) (ho : (C.1.2.2.2 s0).isSome = true) : ∀ (d m : Nat) (k : Int64) (h : jx_H), 300 ≤ m → m + d < 330 → lo_I xs C h → gw_P C.1.2.2.2 s0 k → 20 ≤ gw_c k + d → lo_V xs C h (jx_A m [.ref 200, .long k] h) (.long (mm_gk C.1.2.2.2 s0)) ((d + 1) * 512) := by
  intro d
  induction d with
  | zero =>
    intro m k h hm h3 L P hd
    exact lo_wd (l_Gs (B := 0) D hs ho ⟨hm, by omega⟩ L P (fun t h L T ne => by have := gw_up T.2.1 ne; have := gw_20 D ho T.1; omega)) (by decide)
  | succ d ih =>
    intro m k h hm h3 L P hd
    refine lo_wd (l_Gs (B := (d + 1) * 512) D hs ho ⟨hm, by omega⟩ L P (fun t h L T ne => ?_)) (by omega)
    exact ih (m + 1) t h (by omega) (by omega) L T.1 (by have := gw_up T.2.1 ne; omega)
end LO
end JX
