/-! Reading commands: signs, numbers, a command, all commands. -/
section JX
def zO (o : Option Nat) : Int32 := match o with | some v => nI v | none => -1
theorem zO_n1 : ∀ v, v < 128 → ¬ nI v = -1 := by decide +kernel
theorem pz_10 : ∀ v, v < 10 → ∀ w, w < 10 → 10 * nI v + nI w = nI (10 * v + w) := by decide +kernel
theorem m_131 {x : Nat} (hx : x < 65536) (h : jx_H) : jx_A 131 [.int (nI x)] h = some (.inl (some (.int (zO (pz_dg x)))), h) := by
  rw [a_131]
  unfold pz_dg
  by_cases c1 : x < 48
  · rw [if_pos (show nI x < 48 from nI_lt (b := 48) c1 (by decide)), if_neg (by omega)]; rfl
  · rw [if_neg (show ¬ nI x < 48 from nI_nlt (b := 48) (by omega) (by omega))]
    by_cases c2 : 57 < x
    · rw [if_pos (show 57 < nI x from nI_lt (a := 57) c2 (by omega)), if_neg (by omega)]; rfl
    · rw [if_neg (show ¬ 57 < nI x from nI_nlt (a := 57) (by omega) (by decide)), if_pos (by omega)]
      obtain ⟨y, rfl⟩ : ∃ y, x = 48 + y := ⟨x - 48, by omega⟩
      rw [show nI (48 + y) - 48 = nI y from nI_sub, show 48 + y - 48 = y by omega]; rfl
theorem m_127x {x : Nat} (hx : x < 65536) (h : jx_H) : jx_A 127 [.int (nI x)] h = some (.inl (some (.int (if 97 ≤ x ∧ x ≤ 102 then 1 else 0))), h) := by
  rw [a_127]
  by_cases c1 : x < 97
  · rw [if_pos (show nI x < 97 from nI_lt (b := 97) c1 (by decide)), if_neg (by omega)]
  · rw [if_neg (show ¬ nI x < 97 from nI_nlt (b := 97) (by omega) (by omega))]
    by_cases c2 : 102 < x
    · rw [if_pos (show 102 < nI x from nI_lt (a := 102) c2 (by omega)), if_neg (by omega)]
    · rw [if_neg (show ¬ 102 < nI x from nI_nlt (a := 102) (by omega) (by decide)), if_pos (by omega)]
theorem m_58 {k x : Nat} (hk : k < 128) (hx : x < 65536) (h : jx_H) : jx_A 58 [.int (nI k), .int (nI x)] h = some (.inl (some (.int (zO (pz_vs k x)))), h) := by
  rw [a_58]
  unfold pz_vs
  by_cases k1 : k = 99
  · subst k1
    rw [if_pos (show nI 99 = 99 from rfl), if_pos rfl, jx_cI_e (m_127x hx h)]
    by_cases c : 97 ≤ x ∧ x ≤ 102
    · rw [if_pos c, if_neg (by decide), if_pos c]; rfl
    · rw [if_neg c, if_pos rfl, if_neg c]; rfl
  · rw [if_neg (show ¬ nI k = 99 from fun q => k1 ((nI_eq (b := 99) (by omega) (by omega)).mp q)), if_neg k1]
    by_cases k2 : k = 104
    · subst k2
      rw [if_pos (show nI 104 = 104 from rfl), if_pos rfl, jx_cI_e (m_131 hx h)]
      by_cases c1 : x < 97
      · rw [if_pos (show nI x < 97 from nI_lt (b := 97) c1 (by decide)), if_neg (by omega)]
      · rw [if_neg (show ¬ nI x < 97 from nI_nlt (b := 97) (by omega) (by omega))]
        by_cases c2 : 102 < x
        · rw [if_pos (show 102 < nI x from nI_lt (a := 102) c2 (by omega)), if_neg (by omega)]
        · rw [if_neg (show ¬ 102 < nI x from nI_nlt (a := 102) (by omega) (by decide)), if_pos (by omega)]
          obtain ⟨y, rfl⟩ : ∃ y, x = 97 + y := ⟨x - 97, by omega⟩
          rw [show nI (97 + y) - 97 = nI y from nI_sub, show nI y + 10 = nI (y + 10) from nI_add y 10, show 97 + y - 87 = y + 10 by omega]; rfl
    · rw [if_neg (show ¬ nI k = 104 from fun q => k2 ((nI_eq (b := 104) (by omega) (by omega)).mp q)), if_neg k2]
      by_cases k3 : k = 100
      · subst k3
        rw [if_pos (show nI 100 = 100 from rfl), if_pos rfl, jx_cI_e (m_131 hx h)]
      · rw [if_neg (show ¬ nI k = 100 from fun q => k3 ((nI_eq (b := 100) (by omega) (by omega)).mp q)), if_neg k3]
        by_cases c : x = k
        · rw [if_pos c, if_pos (by rw [c])]; rfl
        · rw [if_neg c, if_neg (fun q => c ((nI_eq (by omega) (by omega)).mp q))]; rfl
theorem pz_dg_9 {x v : Nat} (h : pz_dg x = some v) : v < 10 := by
  unfold pz_dg at h
  split at h
  · have := Option.some.inj h; omega
  · cases h
theorem pz_vs_128 {k x v : Nat} (hk : k < 128) (h : pz_vs k x = some v) : v < 128 := by
  unfold pz_vs at h
  split at h
  · split at h
    · have := Option.some.inj h; omega
    · cases h
  · split at h
    · split at h
      · have := Option.some.inj h; omega
      · have := pz_dg_9 h; omega
    · split at h
      · have := pz_dg_9 h; omega
      · split at h
        · have := Option.some.inj h; omega
        · cases h
theorem pz_vs_no {k x : Nat} (hk : k < 128) (hx : 128 ≤ x) : pz_vs k x = none := by
  have d : pz_dg x = none := if_neg (by omega)
  unfold pz_vs
  rw [d]
  split
  · rw [if_neg (by omega)]
  · split
    · rw [if_neg (by omega)]
    · split
      · rfl
      · rw [if_neg (by omega)]
theorem pz_vs_100 (x : Nat) : pz_vs 100 x = pz_dg x := rfl
theorem pz_F_128 : ∀ i, i < 7 → ∀ k, k ∈ pz_F i → k < 128 := by decide
section SC
variable {xs : List Int32} {h : jx_H} {s tl po cc : Nat} {tx : Nat → Nat} {kw : Nat → Nat} {va : Nat → Nat → Int32}
def rd_P (h : jx_H) (s tl cc : Nat) (tx : Nat → Nat) (kw : Nat → Nat) (va : Nat → Nat → Int32) (X : jx_R) (po : Nat) : pz_R Nat → Prop
  | .inr r => ∃ h', r.2 ≤ tl ∧ r.1 < 128 ∧ po < r.2 ∧ sc_I h' s tl r.2 cc tx kw va ∧ mz_eq s (s + 27) h h' ∧ X = some (.inl (some (.int (nI r.1))), h')
  | .inl e => ∃ h', e ≤ tl ∧ sc_I h' s tl e cc tx kw va ∧ mz_eq s (s + 27) h h' ∧ X = some (.inl (some (.int (-1))), h')
theorem m_57 (G : sc_I h s tl po cc tx kw va) (hpo : po ≤ tl) {k : Nat} (hk : k < 128) : rd_P h s tl cc tx kw va (jx_A 57 [.ref s, .int (nI k)] h) po (pz_sg (pz_c tx tl) k po) := by
  have htl : tl ≤ 60 := G.2.2.2.2.2.1
  unfold pz_sg
  by_cases c : po < tl
  · have tlt := G.2.2.2.2.1 po
    rw [pz_c_lt c]
    have E : jx_A 57 [.ref s, .int (nI k)] h = if zO (pz_vs k (tx po)) = -1 then some (.inl (some (.int (zO (pz_vs k (tx po))))), h) else jx_pt h s 6 2 (.int (nI (po + 1))) (fun h13 => some (.inl (some (.int (zO (pz_vs k (tx po))))), h13)) := by
      rw [a_57, sc_2 G, sc_1 G, if_pos (nI_lt c (by omega)), sc_0 G, sc_2 G, sc_ch G (by omega), jx_cI_e (m_58 hk tlt h), sc_2 G, nI_1]
    cases z : pz_vs k (tx po) with
    | none =>
      refine ⟨h, hpo, G, mz_eq_rf, ?_⟩
      rw [E, z, if_pos (show zO none = -1 from rfl)]; rfl
    | some v =>
      have v1 := pz_vs_128 hk z
      obtain ⟨h1, x1, G1, t1⟩ := sc_pp G (v := po + 1) (by omega)
      refine ⟨h1, c, v1, Nat.lt_succ_self _, G1, t1, ?_⟩
      rw [E, z, if_neg (show ¬ zO (some v) = -1 from zO_n1 v v1), x1]; rfl
  · rw [pz_c_ge (by omega), pz_vs_no hk (by omega)]
    refine ⟨h, hpo, G, mz_eq_rf, ?_⟩
    rw [a_57, sc_2 G, sc_1 G, if_neg (nI_nlt (by omega) (by omega))]
theorem m_56 (G : sc_I h s tl po cc tx kw va) (hpo : po ≤ tl) : rd_P h s tl cc tx kw va (jx_A 56 [.ref s] h) po (pz_nm (pz_c tx tl) po) := by
  have r1 := m_57 G hpo (k := 100) (by decide)
  unfold pz_sg at r1
  rw [pz_vs_100] at r1
  unfold pz_nm
  cases z : pz_dg (pz_c tx tl po) with
  | none =>
    rw [z] at r1
    obtain ⟨h1, e1, G1, t1, x1⟩ := r1
    refine ⟨h1, e1, G1, t1, ?_⟩
    rw [a_56, sc_is G, jx_cI_e (show jx_A 57 [.ref s, .int 100] h = _ from x1), if_pos rfl]
  | some v =>
    rw [z] at r1
    obtain ⟨h1, e1, v1, p1, G1, t1, x1⟩ := r1
    dsimp only at e1 v1 p1 G1 x1
    have v9 := pz_dg_9 z
    have r2 := m_57 G1 e1 (k := 100) (by decide)
    unfold pz_sg at r2
    rw [pz_vs_100] at r2
    dsimp only
    have E : jx_A 56 [.ref s] h = jx_cI jx_A 57 [.ref s, .int 100] h1 (fun y4 h3 => if y4 = (-1) then (some (.inl (some (.int (nI v))), h3)) else (some (.inl (some (.int ((10 * nI v) + y4))), h3))) := by
      rw [a_56, sc_is G, jx_cI_e (show jx_A 57 [.ref s, .int 100] h = _ from x1), if_neg (zO_n1 v v1), sc_is G1]
    cases z2 : pz_dg (pz_c tx tl (po + 1)) with
    | none =>
      rw [z2] at r2
      obtain ⟨h2, e2, G2, t2, x2⟩ := r2
      refine ⟨h2, e2, v1, Nat.lt_succ_self _, G2, mz_eq_tr t1 t2, ?_⟩
      rw [E, jx_cI_e (show jx_A 57 [.ref s, .int 100] h1 = _ from x2), if_pos rfl]
    | some w =>
      rw [z2] at r2
      obtain ⟨h2, e2, v2, p2, G2, t2, x2⟩ := r2
      dsimp only at e2 v2 p2 G2 x2
      have w9 := pz_dg_9 z2
      refine ⟨h2, e2, by dsimp only; omega, by dsimp only; omega, G2, mz_eq_tr t1 t2, ?_⟩
      rw [E, jx_cI_e (show jx_A 57 [.ref s, .int 100] h1 = _ from x2), if_neg (zO_n1 w v2), pz_10 v v9 w w9]
/-- a command's word is written -/
theorem sc_pk (G : sc_I h s tl po cc tx kw va) {i k : Nat} (hi : i < 12) (hk : k < 7) : ∃ h', (∀ F, jx_pt h (s + 3 + 2 * i) 1 0 (.ref (4 + k)) F = F h') ∧ sc_I h' s tl po cc tx (fun j => if j = i then 4 + k else kw j) va ∧ mz_eq s (s + 27) h h' := by
  obtain ⟨g1, g2, g3, g4, g5, g6, g7, g8, g9⟩ := G
  have e : mz_eq (s + 3 + 2 * i) (s + 4 + 2 * i) h (jx_set h (s + 3 + 2 * i) (1, [.ref (4 + k), .ref (s + 4 + 2 * i)])) := mz_eq_st (by omega) (by omega)
  refine ⟨_, fun F => jx_pt_e (g4 i hi).1 (by omega) (by show 0 < 2; decide) F, ⟨mz_eq_at e (by omega) g1, mz_eq_at e (by omega) g2, mz_eq_at e (by omega) g3, fun j hj => ?_, g5, g6, g7, g8, g9⟩, mz_eq_wd e (by omega) (by omega)⟩
  by_cases c : j = i
  · subst c
    refine ⟨?_, mz_eq_at e (by omega) (g4 j hj).2.1, ?_⟩
    · dsimp only; rw [if_pos rfl]; exact mz_set_e
    · dsimp only; rw [if_pos rfl]; omega
  · dsimp only
    rw [if_neg c]
    exact ⟨mz_eq_at e (by omega) (g4 j hj).1, mz_eq_at e (by omega) (g4 j hj).2.1, (g4 j hj).2.2⟩
/-- .. and a value -/
theorem sc_sv (G : sc_I h s tl po cc tx kw va) {i t : Nat} (hi : i < 12) (ht : t < 5) (v : Int32) : ∃ h', (∀ F, jx_st h (s + 4 + 2 * i) 100 (nI t) (.int v) F = F h') ∧ sc_I h' s tl po cc tx kw (fun j => if j = i then (fun u => if u = t then v else va i u) else va j) ∧ mz_eq s (s + 27) h h' := by
  obtain ⟨g1, g2, g3, g4, g5, g6, g7, g8, g9⟩ := G
  refine ⟨_, fun F => mz_st (g4 i hi).2.1 (by omega) ht (by decide) F, ⟨?_, ?_, ?_, fun j hj => ?_, g5, g6, g7, g8, g9⟩, mz_eq_st (by omega) (by omega)⟩
  · rw [mz_set_n (by omega)]; exact g1
  · rw [mz_set_n (by omega)]; exact g2
  · rw [mz_set_n (by omega)]; exact g3
  · refine ⟨by rw [mz_set_n (by omega)]; exact (g4 j hj).1, ?_, (g4 j hj).2.2⟩
    by_cases c : j = i
    · subst c
      dsimp only
      rw [if_pos rfl, mz_set_e]
      refine congrArg (fun l => some (100, l)) (mz_ar_cong fun u _ => ?_)
      by_cases d : u = t
      · rw [if_pos d, if_pos d]
      · rw [if_neg d, if_neg d]
    · dsimp only; rw [if_neg c, mz_set_n (by omega)]; exact (g4 j hj).2.1
def rc_P (h : jx_H) (s tl cc : Nat) (tx : Nat → Nat) (kw : Nat → Nat) (va : Nat → Nat → Int32) (i : Nat) (X : jx_R) : pz_R (Nat × List Nat) → Prop
  | .inr r => ∃ h' va', r.2 ≤ tl ∧ r.1.1 < 7 ∧ r.1.2.length = (pz_F r.1.1).length ∧ sc_I h' s tl r.2 cc tx (fun j => if j = i then 4 + r.1.1 else kw j) (fun j => if j = i then va' else va j) ∧ (∀ t x, r.1.2[t]? = some x → va' t = nI x ∧ x < 128) ∧ mz_eq s (s + 27) h h' ∧ X = some (.inl (some (.int 1)), h')
  | .inl e => ∃ h' va' kw', e ≤ tl ∧ sc_I h' s tl e cc tx kw' va' ∧ mz_eq s (s + 27) h h' ∧ X = some (.inl (some (.int 0)), h')
theorem pz_fm_c (c : Nat → Nat) (k : Nat) (l : List Nat) (po : Nat) : pz_fm c (k :: l) po = (match pz_pt c k po with | .inl e => .inl e | .inr q => match pz_fm c l q.2 with | .inl e => .inl e | .inr r => .inr (q.1 :: r.1, r.2)) := rfl
theorem pz_fm_len (c : Nat → Nat) : ∀ (l : List Nat) (po : Nat) (r), pz_fm c l po = .inr r → r.1.length = l.length
  | [], po, r, h => by unfold pz_fm at h; cases h; rfl
  | k :: l, po, r, h => by
    unfold pz_fm at h
    cases z : pz_pt c k po with
    | inl e => rw [z] at h; cases h
    | inr q =>
      rw [z] at h
      dsimp only at h
      cases z2 : pz_fm c l q.2 with
      | inl e => rw [z2] at h; cases h
      | inr r2 =>
        rw [z2] at h
        cases h
        show (q.1 :: r2.1).length = _
        rw [List.length_cons, List.length_cons, pz_fm_len c l q.2 r2 z2]
theorem m_53 (K : mz_K xs h) (G : sc_I h s tl po cc tx kw va) (hpo : po ≤ tl) {i : Nat} (hi : i < 12) :
    rc_P h s tl cc tx kw va i (jx_A 53 [.ref s, .ref (s + 3 + 2 * i)] h) (pz_C (pz_c tx tl) po) := by
  have htl : tl ≤ 60 := G.2.2.2.2.2.1
  have ns : jx_nc ≤ s := G.2.2.2.2.2.2.2.2
  obtain ⟨h1, p1, b1, G1, t1, a1⟩ := m_54 K G hpo
  have k7 := pz_kw_7 (pz_c tx tl) po
  unfold pz_C
  rcases a1 with ⟨w1, rfl, x1⟩ | ⟨w1, rfl, x1⟩
  · rw [if_pos w1]
    generalize hkk : pz_kw (pz_c tx tl) po = ki at *
    have K1 := mz_K_eq K t1 ns
    obtain ⟨k1, -, -⟩ := kw_st K1 ki k7
    obtain ⟨h2, x2, G2, t2⟩ := sc_pk G1 hi k7
    have E : jx_A 53 [.ref s, .ref (s + 3 + 2 * i)] h = jx_E 53 18 [.ref s, .ref (s + 3 + 2 * i), .ref (4 + ki), .int (nI 0), jx_j, jx_j] [] h2 := by
      rw [a_53, sc_is G, jx_cN_e x1, jx_is_e k1, x2]; rfl
    rw [E]
    have Fl := pz_F_len ki k7
    refine mz_inv (γ := jx_H × Value × Value × Nat × List Nat) (fun t z => jx_E 53 18 [.ref s, .ref (s + 3 + 2 * i), .ref (4 + ki), .int (nI t), z.2.1, z.2.2.1] [] z.1)
      (fun t z => z.2.2.2.1 ≤ tl ∧ z.2.2.2.2.length = t ∧ pz_fm (pz_c tx tl) (pz_F ki) (po + (pz_W ki).length) = (match pz_fm (pz_c tx tl) ((pz_F ki).drop t) z.2.2.2.1 with | .inl e => .inl e | .inr r => .inr (z.2.2.2.2 ++ r.1, r.2)) ∧
        mz_eq s (s + 27) h z.1 ∧ ∃ va', sc_I z.1 s tl z.2.2.2.1 cc tx (fun j => if j = i then 4 + ki else kw j) (fun j => if j = i then va' else va j) ∧ ∀ t x, z.2.2.2.2[t]? = some x → va' t = nI x ∧ x < 128) (pz_F ki).length
      (fun X => rc_P h s tl cc tx kw va i X (match pz_fm (pz_c tx tl) (pz_F ki) (po + (pz_W ki).length) with | .inl e => .inl e | .inr q => .inr ((ki, q.1), q.2))) ?_ ?_ 0 (h2, jx_j, jx_j, po + (pz_W ki).length, []) (Nat.zero_le _) ?_
    · rintro ⟨u, v4, v5, p, vs⟩ ⟨i1, i2, i3, i4, va', i5, i6⟩
      dsimp only at i1 i2 i3 i4 i5 i6 ⊢
      rw [List.drop_length] at i3
      rw [i3]
      have K5 := mz_K_eq K i4 ns
      obtain ⟨k5, -, kF⟩ := kw_st K5 ki k7
      show rc_P h s tl cc tx kw va i _ (.inr ((ki, vs ++ []), p))
      rw [List.append_nil]
      refine ⟨u, va', i1, k7, i2, i5, i6, i4, ?_⟩
      rw [b_53_18, jx_gA_e k5 rfl, st_is kF, jx_cI_e (m_248 kF), if_pos (nI_le (Nat.le_refl _) (by omega))]
    · rintro t ⟨u, v4, v5, p, vs⟩ ht ⟨i1, i2, i3, i4, va', i5, i6⟩
      dsimp only at i1 i2 i3 i4 i5 i6 ⊢
      have K5 := mz_K_eq K i4 ns
      obtain ⟨k5, -, kF⟩ := kw_st K5 ki k7
      obtain ⟨f, hf⟩ : ∃ f, (pz_F ki)[t]? = some f := ⟨_, List.getElem?_eq_getElem ht⟩
      have f128 := pz_F_128 ki k7 f (List.mem_of_getElem? hf)
      have fd : (pz_F ki).drop t = f :: (pz_F ki).drop (t + 1) := by
        rw [List.drop_eq_getElem_cons ht]
        congr 1
        exact (Option.some.inj ((List.getElem?_eq_getElem ht).symm.trans hf))
      rw [fd] at i3
      rw [pz_fm_c] at i3
      have gc := i5.2.2.2.1 i hi
      have E2 : jx_E 53 18 [.ref s, .ref (s + 3 + 2 * i), .ref (4 + ki), .int (nI t), v4, v5] [] u = if nI f = 110 then (jx_cI jx_A 56 [.ref s] u (fun y12 h11 => if y12 = (-1) then (some (.inl (some (.int 0)), h11)) else (jx_gA h11 (s + 3 + 2 * i) 1 1 (fun a13 => jx_st h11 a13 100 (nI t) (.int y12) (fun h14 => jx_E 53 18 [.ref s, .ref (s + 3 + 2 * i), .ref (4 + ki), .int (nI (t + 1)), .int (nI f), .int y12] [] h14))))) else (jx_cI jx_A 57 [.ref s, .int (nI f)] u (fun y8 h7 => if y8 = (-1) then (some (.inl (some (.int 0)), h7)) else (jx_gA h7 (s + 3 + 2 * i) 1 1 (fun a9 => jx_st h7 a9 100 (nI t) (.int y8) (fun h10 => jx_E 53 18 [.ref s, .ref (s + 3 + 2 * i), .ref (4 + ki), .int (nI (t + 1)), .int (nI f), .int y8] [] h10))))) := by
        rw [b_53_18, jx_gA_e k5 rfl, st_is kF, jx_cI_e (m_248 kF), if_neg (nI_ge ht (by omega)), if_neg (show ¬ 5 ≤ nI t from nI_ge (b := 5) (by omega) (by decide)), jx_gA_e k5 rfl, st_is kF, jx_cI_e (m_249 kF hf), sc_is i5, sc_is i5, nI_1]
      -- what the reading of one sign answers
      have R1 : ∃ X : jx_R, rd_P u s tl cc tx (fun j => if j = i then 4 + ki else kw j) (fun j => if j = i then va' else va j) X p (pz_pt (pz_c tx tl) f p) ∧
          jx_E 53 18 [.ref s, .ref (s + 3 + 2 * i), .ref (4 + ki), .int (nI t), v4, v5] [] u = jx_cI (fun _ _ _ => X) 0 [] u (fun y12 h11 => if y12 = (-1) then (some (.inl (some (.int 0)), h11)) else (jx_gA h11 (s + 3 + 2 * i) 1 1 (fun a13 => jx_st h11 a13 100 (nI t) (.int y12) (fun h14 => jx_E 53 18 [.ref s, .ref (s + 3 + 2 * i), .ref (4 + ki), .int (nI (t + 1)), .int (nI f), .int y12] [] h14)))) := by
        unfold pz_pt
        by_cases c : f = 110
        · rw [if_pos c]
          refine ⟨_, m_56 i5 i1, ?_⟩
          rw [E2, if_pos (by rw [c]; rfl)]; rfl
        · rw [if_neg c]
          refine ⟨_, m_57 i5 i1 f128, ?_⟩
          rw [E2, if_neg (show ¬ nI f = 110 from fun q => c ((nI_eq (b := 110) (by omega) (by omega)).mp q))]; rfl
      obtain ⟨X, r1, E3⟩ := R1
      cases z : pz_pt (pz_c tx tl) f p with
      | inl e =>
        left
        rw [z] at r1 i3
        obtain ⟨h3, e3, G3, t3, x3⟩ := r1
        dsimp only at i3
        rw [i3]
        refine ⟨h3, _, _, e3, G3, mz_eq_tr i4 t3, ?_⟩
        rw [E3, jx_cI_e (C := fun _ _ _ => X) x3, if_pos rfl]
      | inr q =>
        right
        rw [z] at r1 i3
        obtain ⟨h3, e3, v3, -, G3, t3, x3⟩ := r1
        dsimp only at i3
        obtain ⟨h4, x4, G4, t4⟩ := sc_sv G3 hi (by omega : t < 5) (nI q.1)
        refine ⟨(h4, .int (nI f), .int (nI q.1), q.2, vs ++ [q.1]), ⟨e3, by simp [i2], ?_, mz_eq_tr i4 (mz_eq_tr t3 t4), (fun w => if w = t then nI q.1 else va' w), ?_, ?_⟩, ?_⟩
        · dsimp only
          rw [i3]
          cases pz_fm (pz_c tx tl) ((pz_F ki).drop (t + 1)) q.2 with
          | inl e => rfl
          | inr r => simp
        · have e : (fun j => if j = i then (fun w => if w = t then nI q.1 else (fun j => if j = i then va' else va j) i w) else (fun j => if j = i then va' else va j) j) = (fun j => if j = i then (fun w => if w = t then nI q.1 else va' w) else va j) := by
            funext j
            by_cases c : j = i
            · simp [c]
            · simp [c]
          rw [← e]; exact G4
        · intro w x hw
          dsimp only at hw
          by_cases c : w = t
          · dsimp only
            rw [if_pos c]
            subst c
            rw [← i2, List.getElem?_concat_length] at hw
            have := Option.some.inj hw
            subst this
            exact ⟨rfl, v3⟩
          · dsimp only
            rw [if_neg c]
            rw [List.getElem?_append] at hw
            split at hw
            · exact i6 w x hw
            · rename_i c2
              have := (List.getElem?_eq_some_iff.mp hw).1
              simp at this
              omega
        · dsimp only
          rw [E3, jx_cI_e (C := fun _ _ _ => X) x3, if_neg (zO_n1 _ v3), jx_gA_e (G3.2.2.2.1 i hi).1 rfl, x4]
    · refine ⟨b1, rfl, ?_, mz_eq_tr t1 t2, va i, ?_, fun t x hx => by cases hx⟩
      · dsimp only
        rw [List.drop_zero]
        cases pz_fm (pz_c tx tl) (pz_F ki) (po + (pz_W ki).length) <;> rfl
      · have e : (fun j => if j = i then va i else va j) = va := by
          funext j
          by_cases c : j = i
          · rw [if_pos c, c]
          · rw [if_neg c]
        rw [e]; exact G2
  · rw [if_neg w1]
    refine ⟨h1, _, _, b1, G1, t1, ?_⟩
    rw [a_53, sc_is G, jx_cN_n x1]
end SC
end JX
