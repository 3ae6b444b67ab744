/-! Worths and turns, pairs. -/
section JX
section LO
variable {xs : List Int32} {C : cl_T} {h : jx_H}
theorem zI_nI (n : Nat) : nI n = zI (n : Int) := (zI_n n).symm
theorem nI_eqI {a b : Nat} (ha : a < 2 ^ 31) (hb : b < 2 ^ 31) {α : Type} (x y : α) : (if nI a = nI b then x else y) = (bif a == b then x else y) := by
  by_cases c : a = b
  · rw [if_pos (by rw [c]), beq_iff_eq.mpr c]; rfl
  · rw [if_neg (fun q => c ((nI_eq ha hb).mp q)), beq_eq_false_iff_ne.mpr c]; rfl
theorem lg_div : ∀ c, c < 64 → nI c / 8 = nI (c / 8) := by decide +kernel
theorem lg_mod' : ∀ c, c < 64 → nI c - nI (c / 8) * 8 = nI (c % 8) := by decide +kernel
theorem lg_mod (c : Nat) (hc : c < 64) : nI c - nI (c / 8) * 8 = nI (c % 8) := lg_mod' c hc
theorem l_172 (L : lo_I xs C h) (D : dr_I C.1) {f : fg_T} (P : pd C.1 f) {c t : Nat} (hc : c < 64) (ht : t < 4) : lo_V xs C h (jx_A 172 [.ref 200, .int (nI (fg_id f)), .int (nI (c / 8)), .int (nI (c % 8)), .int (nI t)] h) (.int (zI (mm_wt C.1.2.2.2 f c t))) 4 := by
  rw [a_172]
  refine lo_wd (lo_lp (γ := Value × Value) (fun i g h => jx_E 172 6 [.ref 200, .int (nI (fg_id f)), .int (nI (c / 8)), .int (nI (c % 8)), .int (nI t), .int (zI (mz_sz (mm_w1 C.1.2.2.2 f c t) i)), .int (nI i), g.1, g.2] [] h) 4 1 0 _ (fun _ _ => True) ?_ ?_ 0 (jx_j, jx_j) h (by decide) trivial L) (by decide)
  · intro g h _ L
    show lo_V xs C h (jx_E 172 6 _ _ _) _ 0
    rw [b_172_6, if_pos (by decide)]
    exact lo_rt L _
  · intro i g h B hi _ L kk
    show lo_V xs C h (jx_E 172 6 _ _ _) _ _
    rw [b_172_6, if_neg (show ¬ (4 : Int32) ≤ nI i from nI_ge hi (by decide))]
    have e1 : mz_sz (mm_w1 C.1.2.2.2 f c t) (i + 1) = mz_sz (mm_w1 C.1.2.2.2 f c t) i + mm_w1 C.1.2.2.2 f c t i := rfl
    have O := (pd_ok D P).1
    refine lo_cI (l_169 L hc hi) (by omega) (fun h1 L1 => ?_)
    rcases lb_neg D (lb_bs hc hi) with ⟨r1, r2⟩ | ⟨f', r1, r2, r3, r4⟩
    · rw [if_pos r1, nI_1]
      have k2 := kk (.int (lb C.1 (mz_bs c i)), g.2) h1 trivial L1
      have e2 : mm_w1 C.1.2.2.2 f c t i = 0 := by unfold mm_w1; rw [r2]
      rw [e1, e2, Int.add_zero] at k2
      exact lo_wd k2 (by omega)
    · have O' := (pd_ok D r2).1
      rw [if_neg r4, r3, lg_opp i hi]
      refine lo_is L1 (lo_cI (l_68 L1 D r2 (show (i + 2) % 4 < 4 by omega)) (by omega) (fun h2 L2 => ?_))
      refine lo_cI (l_171 L2 D P hi ht) (by omega) (fun h3 L3 => ?_)
      rw [lg_xorI (O.2.2.1 _) (fg_at16 O' _)]
      have e2 : mm_w1 C.1.2.2.2 f c t i = (bif fg_ed f ((i + 4 - t) % 4) + fg_at f' ((i + 2) % 4) == 15 then 4 else -3) + (bif fg_co f == fg_co f' then 1 else 0) := by unfold mm_w1; rw [r1]
      have last : ∀ (z : Int) (w : Int32), w = zI z → mm_w1 C.1.2.2.2 f c t i = z + (bif fg_co f == fg_co f' then 1 else 0) → lo_V xs C h3 (jx_E 172 66 [.ref 200, .int (nI (fg_id f)), .int (nI (c / 8)), .int (nI (c % 8)), .int (nI t), .int (zI (mz_sz (mm_w1 C.1.2.2.2 f c t) i)), .int (nI i), .int (nI (fg_id f')), .int (nI (fg_at f' ((i + 2) % 4)))] [.int w, .int (zI (mz_sz (mm_w1 C.1.2.2.2 f c t) i))] h3) (.int (zI (mm_wt C.1.2.2.2 f c t))) (1 + B - 1) := by
        intro z w hw hz
        subst hw
        rw [b_172_66]
        refine lo_is L3 (lo_cI (l_66 L3 D r2) (by omega) (fun h4 L4 => ?_))
        refine lo_is L4 (lo_cI (l_66 L4 D P) (by omega) (fun h5 L5 => ?_))
        have c1 := O.2.1
        have c2 := O'.2.1
        rw [nI_eqI (by omega) (by omega), nI_1]
        have k2 := kk (.int (nI (fg_id f')), .int (nI (fg_at f' ((i + 2) % 4)))) h5 trivial L5
        rw [e1, hz] at k2
        rw [show (fg_co f' == fg_co f) = (fg_co f == fg_co f') from Bool.beq_comm]
        cases e : fg_co f == fg_co f' with
        | true =>
          rw [e] at k2
          rw [show zI (mz_sz (mm_w1 C.1.2.2.2 f c t) i) + zI z + 1 = zI (mz_sz (mm_w1 C.1.2.2.2 f c t) i + (z + 1)) by rw [zI_add, show (1 : Int32) = zI 1 from rfl, zI_add, Int.add_assoc]]
          exact lo_wd k2 (by omega)
        | false =>
          rw [e] at k2
          rw [show zI (mz_sz (mm_w1 C.1.2.2.2 f c t) i) + zI z + 0 = zI (mz_sz (mm_w1 C.1.2.2.2 f c t) i + (z + 0)) by rw [zI_add, Int32.add_zero, Int.add_zero]]
          exact lo_wd k2 (by omega)
      cases e : fg_ed f ((i + 4 - t) % 4) + fg_at f' ((i + 2) % 4) == 15 with
      | true => rw [e] at e2; exact lo_wd (last 4 4 rfl e2) (by omega)
      | false => rw [e] at e2; exact lo_wd (last (-3) (-3) rfl e2) (by omega)
theorem l_173 (L : lo_I xs C h) (D : dr_I C.1) {f : fg_T} (P : pd C.1 f) {c : Nat} (hc : c < 64) : lo_V xs C h (jx_A 173 [.ref 200, .int (nI (fg_id f)), .int (nI (c / 8)), .int (nI (c % 8))] h) (.int (nI (mm_tn C.1.2.2.2 f c))) 24 := by
  rw [a_173]
  refine lo_wd (lo_lp (γ := Unit) (fun i _ h => jx_E 173 6 [.ref 200, .int (nI (fg_id f)), .int (nI (c / 8)), .int (nI (c % 8)), .int (nI (mm_bt (mm_wt C.1.2.2.2 f c) i)), .int (nI (i + 1))] [] h) 3 8 0 _ (fun _ _ => True) ?_ ?_ 0 () h (by decide) trivial L) (by decide)
  · intro _ h _ L
    show lo_V xs C h (jx_E 173 6 _ _ _) _ 0
    rw [b_173_6, if_pos (by decide)]
    exact lo_rt L _
  · intro i _ h B hi _ L kk
    show lo_V xs C h (jx_E 173 6 _ _ _) _ _
    rw [b_173_6, if_neg (show ¬ (4 : Int32) ≤ nI (i + 1) from nI_ge (b := 4) (by omega) (by decide))]
    have b0 := mm_bt_le (mm_wt C.1.2.2.2 f c) i
    refine lo_cI (l_172 L D P hc (show i + 1 < 4 by omega)) (by omega) (fun h1 L1 => ?_)
    refine lo_cI (l_172 L1 D P hc (show mm_bt (mm_wt C.1.2.2.2 f c) i < 4 by omega)) (by omega) (fun h2 L2 => ?_)
    have k2 := kk () h2 trivial L2
    have e1 : mm_bt (mm_wt C.1.2.2.2 f c) (i + 1) = if mm_wt C.1.2.2.2 f c (mm_bt (mm_wt C.1.2.2.2 f c) i) < mm_wt C.1.2.2.2 f c (i + 1) then i + 1 else mm_bt (mm_wt C.1.2.2.2 f c) i := rfl
    rw [e1] at k2
    have b1 := mm_wt_b C.1.2.2.2 f c (i + 1)
    have b2 := mm_wt_b C.1.2.2.2 f c (mm_bt (mm_wt C.1.2.2.2 f c) i)
    rw [nI_1]
    by_cases q : mm_wt C.1.2.2.2 f c (mm_bt (mm_wt C.1.2.2.2 f c) i) < mm_wt C.1.2.2.2 f c (i + 1)
    · rw [if_pos q] at k2
      rw [if_neg (fun z => by have := (zI_le (by omega) (by omega) (by omega) (by omega)).mp z; omega)]
      exact lo_wd k2 (by omega)
    · rw [if_neg q] at k2
      rw [if_pos ((zI_le (by omega) (by omega) (by omega) (by omega)).mpr (by omega))]
      exact lo_wd k2 (by omega)
theorem mm_tn4 (o : Nat → Option fg_T) (f : fg_T) (c : Nat) : mm_tn o f c < 4 := by
  have := mm_bt_le (mm_wt o f c) 3
  unfold mm_tn
  omega
theorem l_174 (L : lo_I xs C h) (D : dr_I C.1) {f : fg_T} (P : pd C.1 f) {c : Nat} (hc : c < 64) : lo_V xs C h (jx_A 174 [.ref 200, .int (nI (fg_id f)), .int (nI (c / 8)), .int (nI (c % 8))] h) (.int (zI (mm_tw C.1.2.2.2 f c))) 28 := by
  rw [a_174]
  refine lo_cI (l_173 L D P hc) (by decide) (fun h1 L1 => ?_)
  refine lo_cI (l_172 L1 D P hc (mm_tn4 _ _ _)) (by decide) (fun h2 L2 => ?_)
  exact lo_rt L2 _
/-- pieces and cells, counted -/
theorem mm_pc {M : mm_T} (HC : mm_C M) (W : Nat → Bool) : mz_su (fun k => (fg_on (M.2.2.1 k) && W (mm_cl (M.2.2.1 k))).toNat) M.1 = mz_su (fun c => ((M.2.2.2 c).isSome && W c).toNat) 64 := by
  have eg : ∀ c, ∃ k, c < 64 → (M.2.2.2 c).isSome = true → k < M.1 ∧ fg_on (M.2.2.1 k) = true ∧ mm_cl (M.2.2.1 k) = c := fun c => by
    by_cases hc : c < 64 ∧ (M.2.2.2 c).isSome = true
    · obtain ⟨f, e⟩ := Option.isSome_iff_exists.mp hc.2
      obtain ⟨k, a1, a2, a3, a4⟩ := HC.2.1 c f hc.1 e
      exact ⟨k, fun _ _ => ⟨a1, by rw [a2]; exact a3, by rw [a2]; exact a4⟩⟩
    · exact ⟨0, fun h1 h2 => absurd ⟨h1, h2⟩ hc⟩
  refine mz_bij (P := fun k => fg_on (M.2.2.1 k) && W (mm_cl (M.2.2.1 k))) (Q := fun c => (M.2.2.2 c).isSome && W c) (fun k => mm_cl (M.2.2.1 k)) (fun c => Classical.choose (eg c)) (fun k hk e => ?_) (fun k j hk hj e1 e2 q => ?_) (fun c hc e => ?_) (fun c d hc hd e1 e2 q => ?_)
  · have e := Bool.and_eq_true_iff.mp e
    obtain ⟨c1, c2⟩ := HC.1 k hk e.1
    refine ⟨c1, ?_⟩
    show ((M.2.2.2 (mm_cl (M.2.2.1 k))).isSome && W (mm_cl (M.2.2.1 k))) = true
    rw [c2, e.2]; rfl
  · exact HC.2.2 k j hk hj (Bool.and_eq_true_iff.mp e1).1 (Bool.and_eq_true_iff.mp e2).1 q
  · have e := Bool.and_eq_true_iff.mp e
    have := Classical.choose_spec (eg c) hc e.1
    refine ⟨this.1, ?_⟩
    show (fg_on (M.2.2.1 (Classical.choose (eg c))) && W (mm_cl (M.2.2.1 (Classical.choose (eg c))))) = true
    rw [this.2.1, this.2.2, e.2]; rfl
  · have r1 := (Classical.choose_spec (eg c) hc (Bool.and_eq_true_iff.mp e1).1).2.2
    have r2 := (Classical.choose_spec (eg d) hd (Bool.and_eq_true_iff.mp e2).1).2.2
    have q' : Classical.choose (eg c) = Classical.choose (eg d) := q
    rw [q', r2] at r1
    exact r1.symm
theorem mm_ct_none {o : Nat → Option fg_T} {c s : Nat} (e : o c = none) : mm_ct o c s = 0 := by unfold mm_ct; rw [e]
/-- the pairs, cell by cell -/
theorem mm_pr_c {M : mm_T} (HC : mm_C M) {kd : Nat} (hk : kd = 1 ∨ kd = 2) : mm_pr M kd = mz_su (fun c => (mm_ct M.2.2.2 c 1 == kd).toNat + (mm_ct M.2.2.2 c 2 == kd).toNat) 64 := by
  have one : ∀ s, mz_su (fun k => (fg_on (M.2.2.1 k) && (mm_ct M.2.2.2 (mm_cl (M.2.2.1 k)) s == kd)).toNat) M.1 = mz_su (fun c => (mm_ct M.2.2.2 c s == kd).toNat) 64 := fun s => by
    rw [mm_pc HC (fun c => mm_ct M.2.2.2 c s == kd)]
    refine mz_su_cong (fun c _ => ?_)
    cases e : M.2.2.2 c with
    | none =>
      rw [mm_ct_none e]
      rcases hk with rfl | rfl <;> rfl
    | some f => rfl
  rw [← mz_su_plus, ← one 1, ← one 2, mz_su_plus]
  unfold mm_pr
  refine mz_su_cong (fun k _ => ?_)
  unfold mm_es mm_cl fg_on
  cases fg_ce (M.2.2.1 k) with
  | zero => rfl
  | succ c => rfl
theorem l_178 (L : lo_I xs C h) (D : dr_I C.1) {k : Nat} (hk : k = 1 ∨ k = 2) : lo_V xs C h (jx_A 178 [.ref 200, .int (lg_k k)] h) (.int (nI (mm_pr C.1 k))) 256 := by
  rw [a_178, mm_pr_c D.1 hk]
  refine lo_wd (lo_lp (γ := Unit) (fun i _ h => jx_E 178 4 [.ref 200, .int (lg_k k), .int (nI (mz_su (fun c => (mm_ct C.1.2.2.2 c 1 == k).toNat + (mm_ct C.1.2.2.2 c 2 == k).toNat) i)), .int (nI i)] [] h) 64 4 0 _ (fun _ _ => True) ?_ ?_ 0 () h (by decide) trivial L) (by decide)
  · intro _ h _ L
    show lo_V xs C h (jx_E 178 4 _ _ _) _ 0
    rw [b_178_4, if_pos (by decide)]
    exact lo_rt L _
  · intro i _ h B hi _ L kk
    show lo_V xs C h (jx_E 178 4 _ _ _) _ _
    rw [b_178_4, if_neg (show ¬ (64 : Int32) ≤ nI i from nI_ge hi (by decide)), lg_div i hi, lg_mod i hi]
    have last : ∀ (h1 : jx_H) (z : Nat) (w : Int32), w = nI z → lo_I xs C h1 → (mm_ct C.1.2.2.2 i 1 == k).toNat = z → lo_V xs C h1 (jx_E 178 33 [.ref 200, .int (lg_k k), .int (nI (mz_su (fun c => (mm_ct C.1.2.2.2 c 1 == k).toNat + (mm_ct C.1.2.2.2 c 2 == k).toNat) i)), .int (nI i)] [.int w, .int (nI (mz_su (fun c => (mm_ct C.1.2.2.2 c 1 == k).toNat + (mm_ct C.1.2.2.2 c 2 == k).toNat) i))] h1) (.int (nI (mz_su (fun c => (mm_ct C.1.2.2.2 c 1 == k).toNat + (mm_ct C.1.2.2.2 c 2 == k).toNat) 64))) (2 + B) := by
      intro h1 z w hw L1 hz
      subst hw
      rw [b_178_33, lg_div i hi, lg_mod i hi]
      refine lo_cI (l_176 L1 D hi (show 2 < 4 by decide)) (by omega) (fun h2 L2 => ?_)
      have k2 := kk () h2 trivial L2
      have e1 : mz_su (fun c => (mm_ct C.1.2.2.2 c 1 == k).toNat + (mm_ct C.1.2.2.2 c 2 == k).toNat) (i + 1) = mz_su (fun c => (mm_ct C.1.2.2.2 c 1 == k).toNat + (mm_ct C.1.2.2.2 c 2 == k).toNat) i + ((mm_ct C.1.2.2.2 i 1 == k).toNat + (mm_ct C.1.2.2.2 i 2 == k).toNat) := rfl
      rw [e1, hz, ← Nat.add_assoc] at k2
      rw [lg_kI lg_ct2 hk, nI_1, nI_add]
      cases e : mm_ct C.1.2.2.2 i 2 == k with
      | true => rw [e] at k2; rw [nI_1]; exact lo_wd k2 (by omega)
      | false => rw [e] at k2; rw [Int32.add_zero]; exact lo_wd k2 (by omega)
    refine lo_cI (l_176 L D hi (show 1 < 4 by decide)) (by omega) (fun h1 L1 => ?_)
    rw [lg_kI lg_ct2 hk]
    cases e : mm_ct C.1.2.2.2 i 1 == k with
    | true => exact lo_wd (last h1 1 1 rfl L1 (by rw [e]; rfl)) (by omega)
    | false => exact lo_wd (last h1 0 0 rfl L1 (by rw [e]; rfl)) (by omega)
end LO
end JX
