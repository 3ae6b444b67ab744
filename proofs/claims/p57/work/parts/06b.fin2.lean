section JX
theorem fin_dx1 (nx : Nat) : jx_Fin (o_dx1 nx) := by
  intro C K Cs Ks hC hK ls st h r hr
  unfold o_dx1 at hr ⊢
  split at hr <;> first | exact hK _ _ _ _ _ hr | exact ⟨0, fun _ _ => hr⟩ | cases hr
theorem mo_dx1 (nx : Nat) : jx_Mo (o_dx1 nx) := by
  intro C K r hC hK ls st h hr
  unfold o_dx1 at hr
  split at hr <;> first | exact hK _ _ _ _ hr | cases hr
theorem fm_dx1 (nx : Nat) : jx_FM (o_dx1 nx) := ⟨fin_dx1 nx, mo_dx1 nx⟩
theorem fin_sB (t nx : Nat) : jx_Fin (o_sB t nx) := by
  intro C K Cs Ks hC hK ls st h r hr
  unfold o_sB at hr ⊢
  split at hr
  · skip
    obtain ⟨vs, h1, h0, h2, h4, h3⟩ := jx_st_i hr
    exact fin_re (fun n => (jx_st_e h1 h0 h2 h4 _)) (hK _ _ _ _ _ h3)
  · cases hr
theorem mo_sB (t nx : Nat) : jx_Mo (o_sB t nx) := by
  intro C K r hC hK ls st h hr
  unfold o_sB at hr
  split at hr
  · have hq := hr
    obtain ⟨vs, h1, h0, h2, h4, h3⟩ := jx_st_i hq
    first | exact hK _ _ _ _ h3 | exact jx_le_s (hK _ _ _ _ h3)
  · cases hr
theorem fm_sB (t nx : Nat) : jx_FM (o_sB t nx) := ⟨fin_sB t nx, mo_sB t nx⟩
theorem fin_sZ (t nx : Nat) : jx_Fin (o_sZ t nx) := by
  intro C K Cs Ks hC hK ls st h r hr
  unfold o_sZ at hr ⊢
  split at hr
  · try dsimp only at hr ⊢
    split at hr
    · rename_i hc
      obtain ⟨vs, h1, h0, h2, h4, h3⟩ := jx_st_i hr
      simp only [if_pos hc]
      exact fin_re (fun n => (jx_st_e h1 h0 h2 h4 _)) (hK _ _ _ _ _ h3)
    · cases hr
  · cases hr
theorem mo_sZ (t nx : Nat) : jx_Mo (o_sZ t nx) := by
  intro C K r hC hK ls st h hr
  unfold o_sZ at hr
  split at hr
  · split at hr
    · obtain ⟨vs, h1, h0, h2, h4, h3⟩ := jx_st_i hr
      first | exact hK _ _ _ _ h3 | exact jx_le_s (hK _ _ _ _ h3)
    · cases hr
  · cases hr
theorem fm_sZ (t nx : Nat) : jx_FM (o_sZ t nx) := ⟨fin_sZ t nx, mo_sZ t nx⟩
theorem fin_pB (t k nx : Nat) : jx_Fin (o_pB t k nx) := by
  intro C K Cs Ks hC hK ls st h r hr
  unfold o_pB at hr ⊢
  split at hr
  · try dsimp only at hr ⊢
    split at hr
    · rename_i hc
      obtain ⟨fs, h1, h2, h4, h3⟩ := jx_pt_i hr
      simp only [if_pos hc]
      exact fin_re (fun n => jx_pt_e h1 h2 h4 _) (hK _ _ _ _ _ h3)
    · cases hr
  · cases hr
theorem mo_pB (t k nx : Nat) : jx_Mo (o_pB t k nx) := by
  intro C K r hC hK ls st h hr
  unfold o_pB at hr
  split at hr
  · split at hr
    · obtain ⟨fs, h1, h2, h4, h3⟩ := jx_pt_i hr
      first | exact hK _ _ _ _ h3 | exact jx_le_s (hK _ _ _ _ h3)
    · cases hr
  · cases hr
theorem fm_pB (t k nx : Nat) : jx_FM (o_pB t k nx) := ⟨fin_pB t k nx, mo_pB t k nx⟩
theorem jx_cln_i {h : jx_H} {a t : Nat} {f : List Value → jx_R} {x : jx_O} (hr : jx_cln h a t f = some x) : ∃ vs, h.1 a = some (t, vs) ∧ (jx_nc ≤ a ∧ vs.all jx_b7 = true ∧ vs.length ≤ 4096 ∧ h.2.1 = h.2.2.1 + jx_nc) ∧ f vs = some x := by
  unfold jx_cln at hr
  split at hr
  · rename_i t' vs e
    split at hr
    · rename_i hc
      obtain ⟨rfl, hc⟩ := hc
      exact ⟨vs, e, hc, hr⟩
    · cases hr
  · cases hr
theorem jx_cln_e {h : jx_H} {a t : Nat} {vs : List Value} (h1 : h.1 a = some (t, vs)) (hc : jx_nc ≤ a ∧ vs.all jx_b7 = true ∧ vs.length ≤ 4096 ∧ h.2.1 = h.2.2.1 + jx_nc) (f : List Value → jx_R) : jx_cln h a t f = f vs := by
  unfold jx_cln
  rw [h1]
  dsimp only
  rw [if_pos ⟨rfl, hc⟩]
theorem o_cl_i {C : jx_C} {t nx : Nat} {ls st : List Value} {h : jx_H} {K : jx_K} {x : jx_O} (hr : o_cl t nx C ls st h K = some x) : ∃ (a : Nat) (r vs : List Value), st = .ref a :: r ∧ h.1 a = some (t, vs) ∧ (jx_nc ≤ a ∧ vs.all jx_b7 = true ∧ vs.length ≤ 4096 ∧ h.2.1 = h.2.2.1 + jx_nc) ∧ jx_cat r ≤ 8 ∧ K nx ls (.ref h.2.1 :: r) (jx_add h (t, vs) vs.length) = some x := by
  unfold o_cl at hr
  split at hr
  · rename_i a r
    obtain ⟨vs, e, hc, hq⟩ := jx_cln_i hr
    obtain ⟨k1, k2⟩ := jx_ck_i hq
    exact ⟨a, r, vs, rfl, e, hc, k1, k2⟩
  · cases hr
theorem o_cl_e {C : jx_C} {t nx a : Nat} {ls r vs : List Value} {h : jx_H} {K : jx_K} (h1 : h.1 a = some (t, vs)) (hc : jx_nc ≤ a ∧ vs.all jx_b7 = true ∧ vs.length ≤ 4096 ∧ h.2.1 = h.2.2.1 + jx_nc) (hk : jx_cat r ≤ 8) : o_cl t nx C ls (.ref a :: r) h K = K nx ls (.ref h.2.1 :: r) (jx_add h (t, vs) vs.length) := by
  unfold o_cl
  dsimp only
  rw [jx_cln_e h1 hc, jx_ck_e hk]
theorem fin_cl (t nx : Nat) : jx_Fin (o_cl t nx) := by
  intro C K Cs Ks hC hK ls st h r hr
  obtain ⟨a, r', vs, rfl, h1, hc, hk, h3⟩ := o_cl_i hr
  exact fin_re (fun n => o_cl_e h1 hc hk) (hK _ _ _ _ _ h3)
theorem mo_cl (t nx : Nat) : jx_Mo (o_cl t nx) := by
  intro C K r hC hK ls st h hr
  obtain ⟨a, r', vs, rfl, h1, hc, hk, h3⟩ := o_cl_i hr
  exact jx_le_a (hK _ _ _ _ h3)
theorem fm_cl (t nx : Nat) : jx_FM (o_cl t nx) := ⟨fin_cl t nx, mo_cl t nx⟩
theorem o_ca_i {C : jx_C} {t nx : Nat} {ls st : List Value} {h : jx_H} {K : jx_K} {x : jx_O} (hr : o_ca t nx C ls st h K = some x) : ∃ (a : Nat) (r vs : List Value), st = .ref a :: r ∧ jx_nc ≤ a ∧ h.1 a = some (t, vs) ∧ K nx ls (.ref a :: r) h = some x := by
  unfold o_ca at hr
  split at hr
  · rename_i a r
    split at hr
    · rename_i ha
      obtain ⟨us, h9, h3⟩ := jx_is_i hr
      exact ⟨a, r, us, rfl, ha, h9, h3⟩
    · cases hr
  · cases hr
theorem o_ca_e {C : jx_C} {t nx a : Nat} {ls r vs : List Value} {h : jx_H} {K : jx_K} (ha : jx_nc ≤ a) (h1 : h.1 a = some (t, vs)) : o_ca t nx C ls (.ref a :: r) h K = K nx ls (.ref a :: r) h := by
  unfold o_ca
  dsimp only
  rw [if_pos ha, jx_is_e h1]
theorem fin_ca (t nx : Nat) : jx_Fin (o_ca t nx) := by
  intro C K Cs Ks hC hK ls st h r hr
  obtain ⟨a, r', vs, rfl, ha, h1, h3⟩ := o_ca_i hr
  exact fin_re (fun n => o_ca_e ha h1) (hK _ _ _ _ _ h3)
theorem mo_ca (t nx : Nat) : jx_Mo (o_ca t nx) := by
  intro C K r hC hK ls st h hr
  obtain ⟨a, r', vs, rfl, ha, h1, h3⟩ := o_ca_i hr
  exact hK _ _ _ _ h3
theorem fm_ca (t nx : Nat) : jx_FM (o_ca t nx) := ⟨fin_ca t nx, mo_ca t nx⟩
end JX
