/-! Filling. -/
section JX
def mz_e2 (lo hi lo2 hi2 : Nat) (h h' : jx_H) : Prop := (∀ r, (r < lo ∨ hi ≤ r) → (r < lo2 ∨ hi2 ≤ r) → h'.1 r = h.1 r) ∧ h'.2 = h.2
theorem mz_e2_l {lo hi lo2 hi2 : Nat} {h h' : jx_H} (e : mz_eq lo hi h h') : mz_e2 lo hi lo2 hi2 h h' := ⟨fun r a _ => e.1 r a, e.2⟩
theorem mz_e2_r {lo hi lo2 hi2 : Nat} {h h' : jx_H} (e : mz_eq lo2 hi2 h h') : mz_e2 lo hi lo2 hi2 h h' := ⟨fun r _ a => e.1 r a, e.2⟩
theorem mz_e2_t {lo hi lo2 hi2 : Nat} {h h' h'' : jx_H} (e : mz_e2 lo hi lo2 hi2 h h') (e2 : mz_e2 lo hi lo2 hi2 h' h'') : mz_e2 lo hi lo2 hi2 h h'' := ⟨fun r a b => (e2.1 r a b).trans (e.1 r a b), e2.2.trans e.2⟩
theorem mz_e2_rf {lo hi lo2 hi2 : Nat} {h : jx_H} : mz_e2 lo hi lo2 hi2 h h := ⟨fun _ _ _ => rfl, rfl⟩
theorem mz_K_e2 {xs : List Int32} {lo hi lo2 hi2 : Nat} {h h' : jx_H} (H : mz_K xs h) (e : mz_e2 lo hi lo2 hi2 h h') (hl : jx_nc ≤ lo) (hl2 : jx_nc ≤ lo2) : mz_K xs h' := fun q hq => (e.1 q (Or.inl (by omega)) (Or.inl (by omega))).trans (H q hq)
def gs_V (h : jx_H) (q : Nat) : Prop := ∃ wa co wt gp, gs_I h q wa co wt gp
theorem bd_W_put2 {n : Nat} {p : Nat → Nat} {A : Nat → fg_T} {g : Nat → Option Nat} (W : bd_W n p A g) {k d : Nat} {f : fg_T} (hk : k < n) (hn : n ≤ 20) (hce : fg_ce (A (p k)) = 0) (hg : g d = none) (hf : fg_ce f = d + 1) : bd_W n p (mz_up A (p k) f) (mz_up g d (some (p k))) := by
  refine ⟨W.1, fun c i hc e => ?_, fun j c hj e => ?_⟩
  · by_cases q : c = d
    · subst q
      rw [mz_up_s] at e
      cases e
      rw [mz_up_s]
      exact ⟨hf, k, hk, rfl⟩
    · rw [mz_up_n q] at e
      have w := W.2.1 c i hc e
      have : i ≠ p k := fun z => by subst z; omega
      rw [mz_up_n this]
      exact w
  · by_cases q : j = k
    · subst q
      rw [mz_up_s, hf] at e
      have : d = c := Nat.succ.inj e
      subst this
      rw [mz_up_s]
    · have : p j ≠ p k := fun z => q (W.1 j k (by omega) (by omega) z)
      rw [mz_up_n this] at e
      have w := W.2.2 j c hj e
      rw [mz_up_n (fun z => by subst z; rw [hg] at w; cases w)]
      exact w
theorem bd_R_pg {h1 : jx_H} {a : Nat} {M : mm_T} {p : Nat → Nat} {A : Nat → fg_T} {g : Nat → Option Nat} {k d : Nat} {f : fg_T} (H1 : bd_I h1 a M.1 M.2.1 p (mz_up A (p k) f) (mz_up g d (some (p k)))) (W : bd_W M.1 p A g) (hF : ∀ k, k < M.1 → A (p k) = M.2.2.1 k) (ho : ∀ c, c < 64 → bd_o A g c = M.2.2.2 c) (hk : k < M.1) (hce : fg_ce (A (p k)) = 0) (hg : g d = none) (hf : fg_ce f = d + 1) : bd_R h1 a (M.1, M.2.1, mz_up M.2.2.1 k f, mz_up M.2.2.2 d (some f)) := by
  have hn := bd_n20 H1
  refine ⟨p, _, _, H1, bd_W_put2 W hk hn hce hg hf, bd_F_up W hn hF hk, fun c hc => ?_⟩
  rw [bd_o_put W hce hc]
  show _ = mz_up M.2.2.2 d (some f) c
  unfold mz_up
  rw [ho c hc]
theorem m_41 {xs : List Int32} {h : jx_H} {a q : Nat} {M : mm_T} (K : mz_K xs h) (R : bd_R h a M) (G : gs_V h q) (hd : a + 43 ≤ q ∨ q + 4 ≤ a) :
    ∃ h' r M', mm_fl 20 M r M' ∧ r ≤ 20 ∧ jx_A 41 [.ref q, .ref a] h = some (.inl (some (.int (nI r))), h') ∧ bd_R h' a M' ∧ gs_V h' q ∧ mz_e2 a (a + 43) q (q + 4) h h' := by
  have na : jx_nc ≤ a := by obtain ⟨p, A, g, H, -⟩ := R; exact bd_nc H
  have nq : jx_nc ≤ q := by obtain ⟨_, _, _, _, G⟩ := G; exact G.2.2.2.2
  rw [a_41]
  refine mz_inv (γ := jx_H × Value × Value) (fun i z => jx_E 41 2 [.ref q, .ref a, .int (nI i), z.2.1, z.2.2] [] z.1)
    (fun i z => ∃ Mi, (∀ r M', mm_fl (20 - i) Mi r M' → mm_fl 20 M (i + r) M') ∧ bd_R z.1 a Mi ∧ gs_V z.1 q ∧ mz_e2 a (a + 43) q (q + 4) h z.1) 20
    (fun X => ∃ h' r M', mm_fl 20 M r M' ∧ r ≤ 20 ∧ X = some (.inl (some (.int (nI r))), h') ∧ bd_R h' a M' ∧ gs_V h' q ∧ mz_e2 a (a + 43) q (q + 4) h h') ?_ ?_ 0 (h, jx_j, jx_j) (by decide) ⟨M, fun r M' w => by rw [Nat.zero_add]; exact w, R, G, mz_e2_rf⟩
  · rintro ⟨u, v, v'⟩ ⟨Mi, C, Ri, Gi, ti⟩
    refine ⟨u, 20, Mi, C 0 Mi ⟨rfl, rfl⟩, Nat.le_refl _, ?_, Ri, Gi, ti⟩
    show jx_E 41 2 _ _ _ = _
    rw [b_41_2, if_pos (by decide)]
    rfl
  · rintro i ⟨u, v, v'⟩ hi ⟨Mi, C, Ri, ⟨wa, co, wt, gp, Gi⟩, ti⟩
    obtain ⟨m, hm⟩ : ∃ m, 20 - i = m + 1 := ⟨19 - i, by omega⟩
    have em : m = 20 - (i + 1) := by omega
    rw [hm] at C
    obtain ⟨p, A, g, H, W, hF, ho⟩ := Ri
    have hn := bd_n20 H
    have Ku := mz_K_e2 K ti na nq
    obtain ⟨u1, wa1, co1, gp1, x1, G1, s1⟩ := m_40 Ku H Gi hd
    have H1 := bd_eq H s1 hd
    have K1 := mz_K_eq Ku s1 nq
    have eb : mm_bg Mi.1 (fun k => A (p k)) (bd_o A g) 64 = mm_bg Mi.1 Mi.2.2.1 Mi.2.2.2 64 := mm_bg_cong hF ho (by decide)
    rw [eb] at x1
    have sp := mm_bg_s Mi.1 Mi.2.2.1 Mi.2.2.2 64
    rcases sp.2 with e1 | ⟨c, hc, e1, eg, ep⟩
    · refine Or.inl ⟨u1, i, Mi, C 0 Mi (Or.inl ⟨e1, rfl, rfl⟩), by omega, ?_, ⟨p, A, g, H1, W, hF, ho⟩, ⟨wa1, co1, wt, gp1, G1⟩, mz_e2_t ti (mz_e2_r s1)⟩
      show jx_E 41 2 _ _ _ = _
      rw [b_41_2, if_neg (show ¬ (20 : Int32) ≤ nI i from nI_ge hi (by decide)), gs_is Gi, jx_cI_e x1, if_pos ((zI_ne (by omega) (by omega)).mpr e1)]
    · rw [e1, zI_n] at x1
      have eg' : g c = none := by
        unfold mm_gap at eg
        have : Mi.2.2.2 c = none := by
          cases z : Mi.2.2.2 c with
          | none => rfl
          | some f => rw [z] at eg; cases eg
        rw [← ho c hc] at this
        unfold bd_o at this
        cases z : g c with
        | none => rfl
        | some f => rw [z] at this; cases this
      obtain ⟨u2, wa2, co2, x2, G2, L2, s2⟩ := m_32 K1 H1 G1 hd hc
      have H2 := bd_eq H1 s2 hd
      obtain ⟨u3, wt3, w, gr, x3, G3, s3⟩ := m_36 H2 G2 hd L2 0
      have H3 := bd_eq H2 s3 hd
      have gr' : mm_gr Mi.1 Mi.2.2.1 (mm_tws Mi c) 0 w := mm_gr_cong hF (fun k hk => by
        show _ = mm_tw Mi.2.2.2 (Mi.2.2.1 k) c
        rw [mm_tw_cong ho hc, hF k hk]) gr
      cases w with
      | none =>
        exfalso
        refine mm_gr_0 ?_ gr'
        unfold mm_pt at ep
        rw [eg] at ep
        obtain ⟨k, k1, k2, -⟩ := (mm_mx_pos (F := Mi.2.2.1) (tw := fun k => mm_tw Mi.2.2.2 (Mi.2.2.1 k) c) Mi.1).2 ep
        exact ⟨k, k1, k2⟩
      | some k =>
        have hk : k < Mi.1 := gr'.1
        have hp := bd_p H hk
        obtain ⟨u4, x4, H4, s4⟩ := m_38 H3 G3 hd L2 rfl hc hp
        have hce : fg_ce (A (p k)) = 0 := by rw [hF k hk]; exact fg_on_0.mp gr'.2.1
        have R4 := bd_R_pg H4 W hF ho hk hce eg' rfl
        rw [hF k hk, mm_tn_cong ho hc] at R4
        refine Or.inr ⟨(u4, .int (nI c), .ref (bd_f a (p k))), ⟨mm_pg Mi k c, fun r M' w => ?_, R4, ⟨_, _, _, _, gs_eq G3 s4 hd.symm⟩, mz_e2_t ti (mz_e2_t (mz_e2_r (mz_eq_tr s1 (mz_eq_tr s2 s3))) (mz_e2_l s4))⟩, ?_⟩
        · have := C (r + 1) M' (Or.inr ⟨c, k, r, hc, e1, gr', rfl, by rw [em]; exact w⟩)
          rw [Nat.add_assoc, Nat.add_comm 1 r]
          exact this
        · show jx_E 41 2 _ _ _ = jx_E 41 2 _ _ _
          rw [b_41_2, if_neg (show ¬ (20 : Int32) ≤ nI i from nI_ge hi (by decide)), gs_is Gi, jx_cI_e x1, if_neg (mz_nIne (by omega)), gs_is G1, jx_cV_e x2, gs_is G2, jx_cN_e (x := bd_f a (p k)) x3, gs_is G3, jx_cV_e x4, nI_1]
end JX
