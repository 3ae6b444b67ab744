/-! placeGuess, the output, the input's characters. -/
section JX
def ok_pg (M : mm_T) (y x r : Int32) (M' : mm_T) : Prop := ∃ c k, q_cell y x (some c) ∧ mm_gap M.2.2.2 c = true ∧ mm_gr M.1 M.2.2.1 (mm_tws M c) 0 (some k) ∧ r = nI (fg_id (M.2.2.1 k)) ∧ M' = mm_pg M k c
def no_pg (M : mm_T) (y x : Int32) (s : String) : Prop := (q_cell y x none ∧ s = eIO) ∨ ∃ c, q_cell y x (some c) ∧ ((mm_gap M.2.2.2 c = false ∧ s = eUO) ∨ (mm_gap M.2.2.2 c = true ∧ mm_gr M.1 M.2.2.1 (mm_tws M c) 0 none ∧ s = eNS))
theorem mm_gap_none {o : Nat → Option fg_T} {c : Nat} (h : mm_gap o c = true) : o c = none := by
  unfold mm_gap at h
  cases z : o c with
  | none => rfl
  | some f => rw [z] at h; cases h
theorem gs_I_ag {h h' : jx_H} {q : Nat} {wa co wt : Nat → Int32} {gp : Int32} (G : gs_I h q wa co wt gp) (e : mz_ag q (q + 4) h h') : gs_I h' q wa co wt gp := by
  obtain ⟨h1, h2, h3, h4, h5⟩ := G
  exact ⟨mz_ag_at e (by omega) (by omega) h1, mz_ag_at e (by omega) (by omega) h2, mz_ag_at e (by omega) (by omega) h3, mz_ag_at e (by omega) (by omega) h4, h5⟩
section CL
variable {xs : List Int32} {h : jx_H} {C : cl_T}
theorem c_76 (K : mz_K xs h) (I : cl_I h C) (y x : Int32) : (∃ r M' h', ok_pg C.1 y x r M' ∧ jx_A 76 [.ref 200, .int y, .int x] h = some (.inl (some (.int r)), h') ∧ cl_I h' (cl_push (cl_M C M') C.1) ∧ mz_eq 200 711 h h') ∨ (∃ s h', no_pg C.1 y x s ∧ jx_A 76 [.ref 200, .int y, .int x] h = some (.inr s, jx_thr h') ∧ cl_I h' C ∧ mz_eq 200 711 h h') := by
  obtain ⟨nx, J⟩ := I
  obtain ⟨p, A, g, H, W, hF, ho⟩ := J.2.1
  obtain ⟨o, q, e⟩ := m_119 K J H ho y x
  cases o with
  | none => exact Or.inr ⟨eIO, h, Or.inl ⟨q, rfl⟩, by rw [a_76, cl_is J, jx_cI_x e], ⟨nx, J⟩, mz_eq_rf⟩
  | some c =>
    have e' : jx_A 119 [.ref 200, .int y, .int x] h = (if mm_gap C.1.2.2.2 c = true then some (.inl (some (.int (nI c))), h) else some (.inr eUO, jx_thr h)) := e
    have hc := q_cell_64 q
    cases eg : mm_gap C.1.2.2.2 c with
    | false =>
      rw [eg, if_neg (by decide)] at e'
      exact Or.inr ⟨eUO, h, Or.inr ⟨c, q, Or.inl ⟨eg, rfl⟩⟩, by rw [a_76, cl_is J, jx_cI_x e'], ⟨nx, J⟩, mz_eq_rf⟩
    | true =>
      rw [eg, if_pos rfl] at e'
      obtain ⟨h1, w, wa, co, wt, gr, x1, J1, G1, L1, s1⟩ := m_121 K J H hF ho hc 0
      have H1 := bd_eq H s1 (by omega)
      cases w with
      | none => exact Or.inr ⟨eNS, h1, Or.inr ⟨c, q, Or.inr ⟨eg, gr, rfl⟩⟩, by rw [a_76, cl_is J, jx_cI_e e', cl_is J, jx_cA_x x1], ⟨nx, J1⟩, mz_eq_wd s1 (by omega) (by omega)⟩
      | some k =>
        have hk : k < C.1.1 := gr.1
        have hp := bd_p H hk
        have x1' : jx_A 121 [.ref 200, .int (nI c), .int 0] h = some (.inl (some (.ref (bd_f 201 (p k)))), h1) := x1
        obtain ⟨h2, x2, J2, R2, s2⟩ := cl_prep J1
        have H2 := bd_eq H1 s2 (by omega)
        have G2 := gs_I_ag G1 (mz_ag_eq s2 (by omega))
        obtain ⟨h3, x3, H3, s3⟩ := m_38 H2 G2 (by omega) L1 rfl hc hp
        have hg : g c = none := by
          have := mm_gap_none eg
          rw [← ho c hc] at this
          unfold bd_o at this
          cases z : g c with
          | none => rfl
          | some f => rw [z] at this; cases this
        have hce : fg_ce (A (p k)) = 0 := by rw [hF k hk]; exact fg_on_0.mp gr.2.1
        have ok := bd_ok H hp
        have id3 : ∀ F, jx_gI h3 (bd_f 201 (p k)) 2 0 F = F (nI (fg_id (C.1.2.2.1 k))) := fun F => by
          rw [bd_fid H3 hp, mz_up_s, ← hF k hk]
          rfl
        have R3 := bd_R_pg H3 W hF ho hk hce hg rfl
        rw [hF k hk, mm_tn_cong ho hc] at R3
        have J3 := cl_J_b (M := mm_pg C.1 k c) J2 R3 s3
        have R4 : bd_R h3 (289 + 43 * nx) C.1 := bd_R_ag R2 (mz_ag_eq s3 (by omega))
        obtain ⟨h4, x4, J4, s4⟩ := cl_settle J3 R4 (r := fg_id (C.1.2.2.1 k)) (by rw [← hF k hk]; exact ok.1)
        refine Or.inl ⟨_, mm_pg C.1 k c, h4, ⟨c, k, q, eg, gr, rfl, rfl⟩, ?_, ⟨_, J4⟩, mz_eq_tr (mz_eq_wd s1 (by omega) (by omega)) (mz_eq_tr (mz_eq_wd s2 (by omega) (by omega)) (mz_eq_tr (mz_eq_wd s3 (by omega) (by omega)) (mz_eq_wd s4 (by omega) (by omega))))⟩
        rw [a_76, cl_is J, jx_cI_e e', cl_is J, jx_cA_e x1', cl_3 J1, cl_0 J1, cl_his J1.2.2.2.1, jx_cV_e x2, cl_4 J2, cl_0 J2, gs_is G2, jx_cV_e x3, id3, cl_is J3, jx_cI_e x4]
theorem c_111 (I : cl_I h C) : jx_A 111 [.ref 200] h = some (.inl (some (.int (nI C.2.2.1))), h) := by
  obtain ⟨nx, J⟩ := I
  rw [a_111, cl_3 J, jx_gI_e J.2.2.2.1.1 rfl]
theorem c_108 (I : cl_I h C) : jx_A 108 [.ref 200] h = if C.2.2.2.2.2.2.1 = -1 then some (.inr eNS, jx_thr h) else some (.inl (some (.int C.2.2.2.2.2.2.1)), h) := by
  obtain ⟨nx, J⟩ := I
  rw [a_108, cl_9 J]
  simp only [cl_9 J]
theorem c_109 (I : cl_I h C) : jx_A 109 [.ref 200] h = if C.2.2.2.2.2.2.2 = -1 then some (.inr eNS, jx_thr h) else some (.inl (some (.int C.2.2.2.2.2.2.2)), h) := by
  obtain ⟨nx, J⟩ := I
  rw [a_109, cl_10 J]
  simp only [cl_10 J]
def sp_outc (C : cl_T) (v : Int32) (o : q_O) : Prop := (∃ j, j < C.2.2.2.2.1.1 ∧ v = nI j ∧ o = .inl (.int (nI (C.2.2.2.2.1.2 j)))) ∨ ((∀ j, j < C.2.2.2.2.1.1 → v ≠ nI j) ∧ o = .inr eIO)
theorem c_105 (I : cl_I h C) (v : Int32) : cl_Q h C (jx_A 105 [.ref 200, .int v] h) (sp_outc C v) := by
  obtain ⟨nx, J⟩ := I
  obtain ⟨oa, e1, e2, e3, e4⟩ := J.2.2.2.2.2.2.2.2.2
  by_cases c1 : v < 0
  · refine cl_Q_h (o := .inr eIO) J (Or.inr ⟨fun j hj e => ?_, rfl⟩) (by rw [a_105, if_pos c1]; rfl)
    subst e
    exact nI_pos (by omega) c1
  · by_cases c2 : v < nI C.2.2.2.2.1.1
    · obtain ⟨j, hj, rfl⟩ := nI_of c1
      have hj2 : j < C.2.2.2.2.1.1 := (nI_ltI hj (by omega)).mp c2
      have h16 : 0 ≤ nI (oa j) ∧ nI (oa j) < 65536 := ⟨nI_pos' (by have := e3 j; omega), nI_lt (b := 65536) (e3 j) (by decide)⟩
      refine cl_Q_h (o := .inl (.int (nI (C.2.2.2.2.1.2 j)))) J (Or.inl ⟨j, hj2, rfl, rfl⟩) ?_
      rw [a_105, if_neg c1, cl_8 J, if_pos c2, cl_7 J, mz_lI e1 (by omega) (by decide) rfl, if_pos h16, e2 j hj2]
      rfl
    · refine cl_Q_h (o := .inr eIO) J (Or.inr ⟨fun j hj e => ?_, rfl⟩) (by rw [a_105, if_neg c1, cl_8 J, if_neg c2]; rfl)
      subst e
      exact c2 (nI_lt hj (by omega))
/-- the input's and the output's part of the state -/
def cl_O (C : cl_T) (o : Nat × (Nat → Nat)) : cl_T := (C.1, C.2.1, C.2.2.1, C.2.2.2.1, o, C.2.2.2.2.2)
def cl_X (C : cl_T) (o : Nat × (Nat → Nat)) : cl_T := (C.1, C.2.1, C.2.2.1, C.2.2.2.1, C.2.2.2.2.1, o, C.2.2.2.2.2.2)
theorem cl_J_x {nx : Nat} {h' : jx_H} {tl : Nat} {tx : Nat → Nat} (J : cl_J h nx C) (G : sc_V h' 683 tl tx) (e : mz_eq 683 710 h h') : cl_J h' nx (cl_X C (tl, tx)) := by
  obtain ⟨j1, j2, j3, j4, j5, j6, j7, j8, j9, j10⟩ := J
  refine ⟨mz_eq_at e (by omega) j1, bd_R_ag j2 (mz_ag_eq e (by omega)), ?_, hs_ag j4 (mz_ag_eq e (by omega)), fun k hk => bd_V_ag (j5 k hk) (mz_ag_eq e (by omega)), fun j hj => bd_R_ag (j6 j hj) (mz_ag_eq e (by have := j4.2.2.1; omega)), gs_V_ag j7 (mz_ag_eq e (by omega)), gu_V_ag j8 (mz_ag_eq e (by omega)), G, ou_V_ag j10 (mz_ag_eq e (by omega))⟩
  show cl_sv h' C.2.1
  unfold cl_sv at j3 ⊢
  split
  · rename_i S e2; rw [e2] at j3; exact bd_R_ag j3 (mz_ag_eq e (by omega))
  · rename_i e2; rw [e2] at j3; exact bd_V_ag j3 (mz_ag_eq e (by omega))
/-- the output and the object's own cell have changed -/
theorem cl_J_o {nx : Nat} {h1 h2 : jx_H} {C' : cl_T} (J : cl_J h nx C) (e : mz_eq 710 711 h h1) (o2 : h2.1 200 = some (cl_ob C')) (e2 : mz_eq 200 201 h1 h2) (G : ou_V h1 710 C'.2.2.2.2.1.1 C'.2.2.2.2.1.2) (k1 : C'.1 = C.1) (k2 : C'.2.1 = C.2.1) (k3 : C'.2.2.1 = C.2.2.1) (k4 : C'.2.2.2.1 = C.2.2.2.1) (k5 : C'.2.2.2.2.2.1 = C.2.2.2.2.2.1) : cl_J h2 nx C' := by
  obtain ⟨j1, j2, j3, j4, j5, j6, j7, j8, j9, j10⟩ := J
  have ag : ∀ lo hi, 201 ≤ lo → hi ≤ 710 → mz_ag lo hi h h2 := fun lo hi a b q c d => (e2.1 q (by omega)).trans (e.1 q (by omega))
  have hx := j4.2.2.1
  refine ⟨o2, by rw [k1]; exact bd_R_ag j2 (ag _ _ (by omega) (by omega)), ?_, by rw [k3]; exact hs_ag j4 (ag _ _ (by omega) (by omega)), fun k hk => bd_V_ag (j5 k hk) (ag _ _ (by omega) (by omega)), fun j hj => ?_, gs_V_ag j7 (ag _ _ (by omega) (by omega)), gu_V_ag j8 (ag _ _ (by omega) (by omega)), by rw [k5]; exact sc_V_ag j9 (ag _ _ (by omega) (by omega)), ou_V_ag G (mz_ag_eq e2 (by omega))⟩
  · rw [k2]
    unfold cl_sv at j3 ⊢
    split
    · rename_i S e9; rw [e9] at j3; exact bd_R_ag j3 (ag _ _ (by omega) (by omega))
    · rename_i e9; rw [e9] at j3; exact bd_V_ag j3 (ag _ _ (by omega) (by omega))
  · rw [k3] at hj
    rw [k4]
    exact bd_R_ag (j6 j hj) (ag _ _ (by omega) (by omega))
/-- a character of the output is written -/
theorem ou_p {u k v : Nat} {oa : Nat → Nat} (e1 : h.1 u = some (101, mz_ar 8 (fun i => .int (nI (oa i))))) (hk : k < 8) (hu : jx_nc ≤ u) : ∃ h', (∀ F, jx_st h u 101 (nI k) (.int (nI v)) F = F h') ∧ h'.1 u = some (101, mz_ar 8 (fun i => .int (nI (mz_up oa k v i)))) ∧ mz_eq u (u + 1) h h' := by
  refine ⟨_, fun F => mz_st e1 hu hk (by decide) F, ?_, mz_eq_st (by omega) (by omega)⟩
  rw [mz_set_e]
  congr 2
  refine mz_ar_cong (fun j hj => ?_)
  unfold mz_up
  split <;> rfl
def mm_sg (M : mm_T) (c : Nat) : Nat := match M.2.2.2 c with
  | some f => fg_co f
  | none => bif mm_gap M.2.2.2 c then 43 else 46
theorem mm_sg_lt (R : bd_R h 201 C.1) {c : Nat} (hc : c < 64) : mm_sg C.1 c < 65536 := by
  obtain ⟨p, A, g, H, W, hF, ho⟩ := R
  unfold mm_sg
  cases e : C.1.2.2.2 c with
  | none => cases mm_gap C.1.2.2.2 c <;> decide
  | some f =>
    rw [← ho c hc] at e
    unfold bd_o at e
    cases eg : g c with
    | none => rw [eg] at e; cases e
    | some i => rw [eg] at e; cases e; exact (bd_ok H (bd_g H hc eg)).2.1
theorem m_124 (K : mz_K xs h) (o1 : h.1 200 = some (cl_ob C)) (R : bd_R h 201 C.1) {c : Nat} (hc : c < 64) : jx_A 124 [.ref 200, .int (nI c)] h = some (.inl (some (.int (nI (mm_sg C.1 c)))), h) := by
  obtain ⟨p, A, g, H, W, hF, ho⟩ := R
  have e15 := m_15 K H hc
  rw [mm_gap_cong ho hc] at e15
  rw [a_124, jx_gA_e o1 rfl, bd_gr H, bd_ce H hc]
  unfold mm_sg
  rw [← ho c hc]
  unfold bd_o
  cases eg : g c with
  | some i =>
    have ok := bd_ok H (bd_g H hc eg)
    have h16 : 0 ≤ nI (fg_co (A i)) ∧ nI (fg_co (A i)) < 65536 := ⟨nI_pos' (by have := ok.2.1; omega), nI_lt (b := 65536) ok.2.1 (by decide)⟩
    show jx_gI h (bd_f 201 i) 2 1 _ = _
    rw [bd_fco H (bd_g H hc eg), if_pos h16]
    rfl
  | none =>
    show jx_gA h 200 7 0 _ = _
    rw [jx_gA_e o1 rfl, bd_is H, jx_cI_e e15]
    show _ = (some (.inl (some (.int (nI (bif mm_gap C.1.2.2.2 c then 43 else 46)))), h) : jx_R)
    cases mm_gap C.1.2.2.2 c <;> rfl
theorem c_103 (K : mz_K xs h) (I : cl_I h C) (y : Int32) : (∃ i h', i ≤ 7 ∧ y = nI i ∧ jx_A 103 [.ref 200, .int y] h = some (.inl (some (.int 8)), h') ∧ cl_I h' (cl_O C (8, fun j => mm_sg C.1 (8 * i + j))) ∧ mz_eq 200 711 h h') ∨ ((∀ i, i ≤ 7 → y ≠ nI i) ∧ jx_A 103 [.ref 200, .int y] h = some (.inr eIO, jx_thr h)) := by
  obtain ⟨nx, J⟩ := I
  obtain ⟨o, q, e⟩ := m_118 y 0 h
  cases o with
  | none =>
    refine Or.inr ⟨?_, by rw [a_103, jx_cI_x e]⟩
    rcases q with q | q
    · exact q
    · exact absurd rfl (q 0 (by omega))
  | some c =>
    have hc := q_cell_64 q
    obtain ⟨i, j, rfl, hi, hj0, hj, rfl⟩ := q
    have : j = 0 := by
      have := (nI_eq (a := 0) (b := j) (by decide) (by omega)).mp hj0
      omega
    subst this
    rw [Nat.add_zero] at e
    have e' : jx_A 118 [.int (nI i), .int 0] h = some (.inl (some (.int (nI (8 * i)))), h) := e
    obtain ⟨oa, e1, e2, e3, e4⟩ := J.2.2.2.2.2.2.2.2.2
    have key := mz_inv (γ := jx_H) (fun k u => jx_E 103 8 [.ref 200, .int (nI i), .int (nI (8 * i)), .int (nI k)] [] u) (fun k u => ∃ ob : Nat → Nat, u.1 710 = some (101, mz_ar 8 (fun i => .int (nI (ob i)))) ∧ (∀ j, j < k → ob j = mm_sg C.1 (8 * i + j)) ∧ (∀ j, ob j < 65536) ∧ mz_eq 710 711 h u) 8
      (fun X => ∃ h', X = some (.inl (some (.int 8)), h') ∧ cl_I h' (cl_O C (8, fun j => mm_sg C.1 (8 * i + j))) ∧ mz_eq 200 711 h h')
      (fun u ⟨ob, u1, u2, u3, tu⟩ => by
        have o1 : u.1 200 = some (cl_ob C) := mz_eq_at tu (by omega) J.1
        have x2 : ∀ F, jx_pt u 200 7 8 (.int 8) F = F (jx_set u 200 (cl_ob (cl_O C (8, fun j => mm_sg C.1 (8 * i + j))))) := fun F => jx_pt_e o1 (by decide) (by show 8 < 11; decide) F
        have t2 : mz_eq 200 201 u (jx_set u 200 (cl_ob (cl_O C (8, fun j => mm_sg C.1 (8 * i + j))))) := mz_eq_st (by omega) (by omega)
        refine ⟨_, ?_, ⟨nx, cl_J_o J tu mz_set_e t2 ⟨ob, u1, u2, u3, Nat.le_refl _⟩ rfl rfl rfl rfl rfl⟩, mz_eq_tr (mz_eq_wd tu (by omega) (by omega)) (mz_eq_wd t2 (by omega) (by omega))⟩
        show jx_E 103 8 _ _ _ = _
        rw [b_103_8, if_pos (by decide), x2, jx_gI_e (show (jx_set u 200 (cl_ob (cl_O C (8, fun j => mm_sg C.1 (8 * i + j))))).1 200 = some (7, (cl_ob (cl_O C (8, fun j => mm_sg C.1 (8 * i + j)))).2) from mz_set_e) rfl]
        rfl)
      (fun k u hk ⟨ob, u1, u2, u3, tu⟩ => by
        have o1 : u.1 200 = some (cl_ob C) := mz_eq_at tu (by omega) J.1
        have Ru := bd_R_ag J.2.1 (mz_ag_eq tu (by omega))
        have Ku := mz_K_eq K tu (by decide)
        have lt := mm_sg_lt Ru (c := 8 * i + k) (by omega)
        obtain ⟨u2', w2, w3, s2⟩ := ou_p (v := mm_sg C.1 (8 * i + k)) u1 hk (by decide)
        refine Or.inr ⟨u2', ⟨_, w3, fun j hj => ?_, fun j => ?_, mz_eq_tr tu s2⟩, ?_⟩
        · by_cases z : j = k
          · subst z; rw [mz_up_s]
          · rw [mz_up_n z]; exact u2 j (by omega)
        · unfold mz_up
          split
          · exact lt
          · exact u3 j
        · show jx_E 103 8 _ _ _ = jx_E 103 8 _ _ _
          rw [b_103_8, if_neg (show ¬ (8 : Int32) ≤ nI k from nI_ge hk (by decide)), jx_gA_e o1 rfl, jx_is_e o1, nI_add, jx_cI_e (m_124 Ku o1 Ru (by omega)), mz_c16 lt, w2, nI_1]) 0 h (by decide) ⟨oa, e1, fun j hj => by omega, e3, mz_eq_rf⟩
    obtain ⟨h', x1, x2, x3⟩ := key
    exact Or.inl ⟨i, h', hi, rfl, by rw [a_103, jx_cI_e e']; exact x1, x2, x3⟩
def mm_hx (v : Nat) : Nat := bif Nat.blt v 10 then 48 + v else 87 + v
theorem mz_hx : ∀ v, v < 16 → (10 ≤ v → (((97 + nI v) - 10).toUInt32 % 65536).toInt32 = nI (mm_hx v)) ∧ (v < 10 → ((48 + nI v).toUInt32 % 65536).toInt32 = nI (mm_hx v)) ∧ 0 ≤ nI (mm_hx v) ∧ nI (mm_hx v) < 65536 ∧ mm_hx v < 65536 := by decide +kernel
theorem m_130 {v : Nat} (hv : v < 16) (h : jx_H) : jx_A 130 [.int (nI v)] h = some (.inl (some (.int (nI (mm_hx v)))), h) := by
  obtain ⟨h1, h2, h3, h4, -⟩ := mz_hx v hv
  rw [a_130]
  by_cases c : 10 ≤ v
  · rw [if_pos (show (10 : Int32) ≤ nI v from nI_le (a := 10) c (by omega)), h1 c, if_pos ⟨h3, h4⟩]
  · rw [if_neg (show ¬ (10 : Int32) ≤ nI v from nI_ge (b := 10) (by omega) (by decide)), h2 (by omega), if_pos ⟨h3, h4⟩]
/-- the output of a fragment -/
def mm_of (f : fg_T) : Nat × (Nat → Nat) := (bif fg_on f then 8 else 5, fun i => match i with
  | 0 => fg_co f
  | 5 => 64
  | 6 => mm_hx ((fg_ce f - 1) / 8)
  | 7 => mm_hx ((fg_ce f - 1) % 8)
  | i + 1 => mm_hx (fg_at f i))
theorem mz_dv8 : ∀ c, c < 64 → nI c / 8 = nI (c / 8) ∧ nI c - nI c / 8 * 8 = nI (c % 8) := by decide +kernel
theorem c_104 (K : mz_K xs h) (I : cl_I h C) (v : Int32) : (∃ k h', mm_fd C.1 v (some k) ∧ jx_A 104 [.ref 200, .int v] h = some (.inl (some (.int (nI (mm_of (C.1.2.2.1 k)).1))), h') ∧ cl_I h' (cl_O C (mm_of (C.1.2.2.1 k))) ∧ mz_eq 200 711 h h') ∨ (mm_fd C.1 v none ∧ jx_A 104 [.ref 200, .int v] h = some (.inr eNS, jx_thr h)) := by
  obtain ⟨nx, J⟩ := I
  obtain ⟨p, A, g, H, W, hF, ho⟩ := J.2.1
  obtain ⟨o, q, e⟩ := m_116 J H hF v
  cases o with
  | none => exact Or.inr ⟨q, by rw [a_104, cl_is J, jx_cA_x e]⟩
  | some k =>
    have e' : jx_A 116 [.ref 200, .int v] h = some (.inl (some (.ref (bd_f 201 (p k)))), h) := e
    have hk : k < C.1.1 := q.1
    have hp := bd_p H hk
    have ok := bd_ok H hp
    obtain ⟨oa, e1, e2, e3, e4⟩ := J.2.2.2.2.2.2.2.2.2
    obtain ⟨h1, x1, y1, s1⟩ := ou_p (k := 0) (v := fg_co (A (p k))) e1 (by decide) (by decide)
    have fin : ∀ (u : jx_H) (ob : Nat → Nat) (L : Nat), mz_eq 710 711 h u → u.1 710 = some (101, mz_ar 8 (fun i => .int (nI (ob i)))) → (∀ i, ob i < 65536) → (∀ i, i < (mm_of (C.1.2.2.1 k)).1 → ob i = (mm_of (C.1.2.2.1 k)).2 i) → L = (mm_of (C.1.2.2.1 k)).1 → cl_I (jx_set u 200 (cl_ob (cl_O C (mm_of (C.1.2.2.1 k))))) (cl_O C (mm_of (C.1.2.2.1 k))) ∧ mz_eq 200 711 h (jx_set u 200 (cl_ob (cl_O C (mm_of (C.1.2.2.1 k))))) := fun u ob L tu u1 u3 u2 _ => by
      have t2 : mz_eq 200 201 u (jx_set u 200 (cl_ob (cl_O C (mm_of (C.1.2.2.1 k))))) := mz_eq_st (by omega) (by omega)
      refine ⟨⟨nx, cl_J_o J tu mz_set_e t2 ⟨ob, u1, u2, u3, ?_⟩ rfl rfl rfl rfl rfl⟩, mz_eq_tr (mz_eq_wd tu (by omega) (by omega)) (mz_eq_wd t2 (by omega) (by omega))⟩
      show (bif fg_on (C.1.2.2.1 k) then 8 else 5) ≤ 8
      cases fg_on (C.1.2.2.1 k) <;> decide
    have key := mz_inv (γ := jx_H) (fun i u => jx_E 104 18 [.ref 200, .int v, .ref (bd_f 201 (p k)), .int (nI i)] [] u) (fun i u => ∃ ob : Nat → Nat, u.1 710 = some (101, mz_ar 8 (fun i => .int (nI (ob i)))) ∧ (∀ j, j < i + 1 → ob j = (mm_of (C.1.2.2.1 k)).2 j) ∧ (∀ j, ob j < 65536) ∧ mz_eq 710 711 h u) 4
      (fun X => ∃ h', X = some (.inl (some (.int (nI (mm_of (C.1.2.2.1 k)).1))), h') ∧ cl_I h' (cl_O C (mm_of (C.1.2.2.1 k))) ∧ mz_eq 200 711 h h')
      (fun u ⟨ob, u1, u2, u3, tu⟩ => by
        have o1 : u.1 200 = some (cl_ob C) := mz_eq_at tu (by omega) J.1
        have Hu := bd_eq H tu (by omega)
        cases ec : fg_ce (A (p k)) with
        | zero =>
          have e5 : (mm_of (C.1.2.2.1 k)).1 = 5 := by
            unfold mm_of
            rw [← hF k hk, fg_on_0.mpr ec]; rfl
          have F := fin u ob 5 tu u1 u3 (fun i hi => u2 i (by rw [e5] at hi; omega)) e5.symm
          -- the length is written before the test
          have x2 : ∀ F, jx_pt u 200 7 8 (.int 5) F = F (jx_set u 200 (cl_ob (cl_O C (mm_of (C.1.2.2.1 k))))) := fun F => by
            refine (jx_pt_e o1 (by decide) (by show 8 < 11; decide) F).trans ?_
            congr 2
            unfold cl_ob cl_O
            rw [e5]; rfl
          have H2 := bd_eq Hu (show mz_eq 200 201 u (jx_set u 200 (cl_ob (cl_O C (mm_of (C.1.2.2.1 k))))) from mz_eq_st (by omega) (by omega)) (by omega)
          refine ⟨_, ?_, F.1, F.2⟩
          show jx_E 104 18 _ _ _ = _
          rw [b_104_18, if_pos (by decide), x2, bd_fis H2 hp, jx_cI_e (m_21 H2 hp), fg_on_0.mpr ec, if_pos (by decide), jx_gI_e (show (jx_set u 200 (cl_ob (cl_O C (mm_of (C.1.2.2.1 k))))).1 200 = some (7, (cl_ob (cl_O C (mm_of (C.1.2.2.1 k)))).2) from mz_set_e) rfl]
          rfl
        | succ c =>
          have hc : c < 64 := by have := ok.2.2.2.2; omega
          have e5 : (mm_of (C.1.2.2.1 k)).1 = 8 := by
            unfold mm_of
            rw [← hF k hk, fg_on_1.mpr (by rw [ec]; exact Nat.succ_ne_zero c)]; rfl
          have w5 : ∀ F, jx_pt u 200 7 8 (.int 5) F = F (jx_set u 200 (cl_ob (cl_O C (5, C.2.2.2.2.1.2)))) := fun F => jx_pt_e o1 (by decide) (by show 8 < 11; decide) F
          have t5 : mz_eq 200 201 u (jx_set u 200 (cl_ob (cl_O C (5, C.2.2.2.2.1.2)))) := mz_eq_st (by omega) (by omega)
          have o5 : (jx_set u 200 (cl_ob (cl_O C (5, C.2.2.2.2.1.2)))).1 200 = some (7, (cl_ob (cl_O C (5, C.2.2.2.2.1.2))).2) := mz_set_e
          have H5 := bd_eq Hu t5 (by omega)
          obtain ⟨v6, x6, y6, s6⟩ := ou_p (h := jx_set u 200 (cl_ob (cl_O C (5, C.2.2.2.2.1.2)))) (k := 5) (v := 64) (mz_eq_at t5 (by omega) u1) (by decide) (by decide)
          have o6 := mz_eq_at s6 (by omega) o5
          have H6 := bd_eq H5 s6 (by omega)
          obtain ⟨v7, x7, y7, s7⟩ := ou_p (k := 6) (v := mm_hx (c / 8)) y6 (by decide) (by decide)
          have o7 := mz_eq_at s7 (by omega) o6
          have H7 := bd_eq H6 s7 (by omega)
          obtain ⟨v8, x8, y8, s8⟩ := ou_p (k := 7) (v := mm_hx (c % 8)) y7 (by decide) (by decide)
          have o8 := mz_eq_at s8 (by omega) o7
          have x9 : ∀ F, jx_pt v8 200 7 8 (.int 8) F = F (jx_set v8 200 (cl_ob (cl_O C (mm_of (C.1.2.2.1 k))))) := fun F => by
            refine (jx_pt_e o8 (by decide) (by show 8 < 11; decide) F).trans ?_
            congr 2
            unfold cl_ob cl_O
            rw [e5]; rfl
          have hxl := fun z (hz : z < 16) => (mz_hx z hz).2.2.2.2
          have eo : ∀ i, i < (mm_of (C.1.2.2.1 k)).1 → mz_up (mz_up (mz_up ob 5 64) 6 (mm_hx (c / 8))) 7 (mm_hx (c % 8)) i = (mm_of (C.1.2.2.1 k)).2 i := fun i hi => by
            rw [e5] at hi
            have ec' : fg_ce (C.1.2.2.1 k) = c + 1 := by rw [← hF k hk]; exact ec
            by_cases z7 : i = 7
            · subst z7; rw [mz_up_s]; show _ = mm_hx ((fg_ce (C.1.2.2.1 k) - 1) % 8); rw [ec']; rfl
            · rw [mz_up_n z7]
              by_cases z6 : i = 6
              · subst z6; rw [mz_up_s]; show _ = mm_hx ((fg_ce (C.1.2.2.1 k) - 1) / 8); rw [ec']; rfl
              · rw [mz_up_n z6]
                by_cases z5 : i = 5
                · subst z5; rw [mz_up_s]; rfl
                · rw [mz_up_n z5]; exact u2 i (by omega)
          -- nothing but the row and the object's own cell
          have T8 : ∀ q, q < 200 ∨ 201 ≤ q → q < 710 ∨ 711 ≤ q → v8.1 q = u.1 q := fun q k1 k2 => (s8.1 q (by omega)).trans ((s7.1 q (by omega)).trans ((s6.1 q (by omega)).trans (t5.1 q (by omega))))
          refine ⟨jx_set v8 200 (cl_ob (cl_O C (mm_of (C.1.2.2.1 k)))), ?_, ⟨nx, cl_J_o (h1 := jx_set v8 200 (cl_ob C)) J ⟨fun q kq => ?_, ?_⟩ mz_set_e ⟨fun q kq => ?_, rfl⟩ ⟨_, (mz_set_n (by decide)).trans y8, eo, fun i => ?_, by rw [show (cl_O C (mm_of (C.1.2.2.1 k))).2.2.2.2.1.1 = (mm_of (C.1.2.2.1 k)).1 from rfl, e5]; decide⟩ rfl rfl rfl rfl rfl⟩, ⟨fun q kq => ?_, ?_⟩⟩
          · show jx_E 104 18 _ _ _ = _
            have d1 := (mz_dv8 c hc).1
            have d2 := (mz_dv8 c hc).2
            rw [b_104_18, if_pos (by decide), w5, bd_fis H5 hp, jx_cI_e (m_21 H5 hp), fg_on_1.mpr (by rw [ec]; exact Nat.succ_ne_zero c), if_neg (by decide), jx_gA_e o5 rfl]
            rw [show jx_st (jx_set u 200 (cl_ob (cl_O C (5, C.2.2.2.2.1.2)))) 710 101 5 (.int ((64 : Nat).toUInt32 % 65536).toInt32) = jx_st (jx_set u 200 (cl_ob (cl_O C (5, C.2.2.2.2.1.2)))) 710 101 (nI 5) (.int (nI 64)) from by rw [show ((64 : Nat).toUInt32 % 65536).toInt32 = nI 64 by decide +kernel]; rfl]
            rw [x6, jx_gA_e o6 rfl, bd_fce H6 hp, ec, mz_pred, d1, jx_cI_e (m_130 (v := c / 8) (by omega) v6), mz_c16 (hxl _ (by omega))]
            rw [show jx_st v6 710 101 6 (.int (nI (mm_hx (c / 8)))) = jx_st v6 710 101 (nI 6) (.int (nI (mm_hx (c / 8)))) from rfl, x7, jx_gA_e o7 rfl, bd_fce H7 hp, ec, mz_pred, d2, jx_cI_e (m_130 (v := c % 8) (by omega) v7), mz_c16 (hxl _ (by omega))]
            rw [show jx_st v7 710 101 7 (.int (nI (mm_hx (c % 8)))) = jx_st v7 710 101 (nI 7) (.int (nI (mm_hx (c % 8)))) from rfl, x8, x9, jx_gI_e (show (jx_set v8 200 (cl_ob (cl_O C (mm_of (C.1.2.2.1 k))))).1 200 = some (7, (cl_ob (cl_O C (mm_of (C.1.2.2.1 k)))).2) from mz_set_e) rfl]
            rfl
          · by_cases z : q = 200
            · subst z; rw [mz_set_e]; exact J.1.symm
            · rw [mz_set_n z]; exact (T8 q (by omega) kq).trans (tu.1 q kq)
          · show v8.2 = h.2
            rw [s8.2, s7.2, s6.2]; exact tu.2
          · by_cases z : q = 200
            · omega
            · rw [mz_set_n z, mz_set_n z]
          · have a1 := hxl (c / 8) (by omega)
            have a2 := hxl (c % 8) (by omega)
            unfold mz_up
            split
            · exact a2
            · split
              · exact a1
              · split
                · decide
                · exact u3 i
          · rw [mz_set_n (by omega)]
            exact (T8 q (by omega) (by omega)).trans (tu.1 q (by omega))
          · show v8.2 = h.2
            rw [s8.2, s7.2, s6.2]; exact tu.2)
      (fun i u hi ⟨ob, u1, u2, u3, tu⟩ => by
        have o1 : u.1 200 = some (cl_ob C) := mz_eq_at tu (by omega) J.1
        have Hu := bd_eq H tu (by omega)
        have lt := fg_at_lt ok i
        have lx := (mz_hx _ lt).2.2.2.2
        obtain ⟨u2', w2, w3, s2⟩ := ou_p (v := mm_hx (fg_at (A (p k)) i)) u1 (k := i + 1) (by omega) (by decide)
        refine Or.inr ⟨u2', ⟨_, w3, fun j hj => ?_, fun j => ?_, mz_eq_tr tu s2⟩, ?_⟩
        · by_cases z : j = i + 1
          · subst z
            rw [mz_up_s, hF k hk]
            match i, hi with
            | 0, _ => rfl
            | 1, _ => rfl
            | 2, _ => rfl
            | 3, _ => rfl
          · rw [mz_up_n z]; exact u2 j (by omega)
        · unfold mz_up
          split
          · exact lx
          · exact u3 j
        · show jx_E 104 18 _ _ _ = jx_E 104 18 _ _ _
          rw [b_104_18, if_neg (show ¬ (4 : Int32) ≤ nI i from nI_ge hi (by decide)), jx_gA_e o1 rfl, bd_fis Hu hp, jx_cI_e (m_22 Hu hp hi), jx_cI_e (m_130 lt u), mz_c16 lx, show (1 : Int32) + nI i = nI (i + 1) by rw [Nat.add_comm]; exact nI_add 1 i, w2, nI_1]) 0 h1 (by decide) ⟨_, y1, fun j hj => by
          have : j = 0 := by omega
          subst this
          rw [mz_up_s, hF k hk]; rfl, fun j => by
          unfold mz_up
          split
          · exact ok.2.1
          · exact e3 j, s1⟩
    obtain ⟨h', z1, z2, z3⟩ := key
    refine Or.inl ⟨k, h', q, ?_, z2, z3⟩
    rw [a_104, cl_is J, jx_cA_e e', cl_7 J, bd_fco H hp, mz_c16 ok.2.1, show jx_st h 710 101 0 (.int (nI (fg_co (A (p k))))) = jx_st h 710 101 (nI 0) (.int (nI (fg_co (A (p k))))) from rfl, x1]
    exact z1
theorem c_106 (I : cl_I h C) {v : Nat} (hv : v < 65536) : (C.2.2.2.2.2.1.1 = 60 ∧ jx_A 106 [.ref 200, .int (nI v)] h = some (.inr eIS, jx_thr h)) ∨ (C.2.2.2.2.2.1.1 < 60 ∧ ∃ h', jx_A 106 [.ref 200, .int (nI v)] h = some (.inl (some (.int (nI (C.2.2.2.2.2.1.1 + 1)))), h') ∧ cl_I h' (cl_X C (C.2.2.2.2.2.1.1 + 1, mz_up C.2.2.2.2.2.1.2 C.2.2.2.2.2.1.1 v)) ∧ mz_eq 200 711 h h') := by
  obtain ⟨nx, J⟩ := I
  obtain ⟨po, cc, ty, kw, va, G, hty⟩ := J.2.2.2.2.2.2.2.2.1
  have G0 := G
  obtain ⟨g1, g2, g3, g4, g5, g6, g7, g8, g9⟩ := G
  have e49 : jx_A 49 [.ref 683] h = some (.inl (some (.int (if nI C.2.2.2.2.2.1.1 < 60 then 0 else 1))), h) := by
    rw [a_49, jx_gI_e g1 rfl]
    split <;> rfl
  by_cases c : C.2.2.2.2.2.1.1 < 60
  · have lt : nI C.2.2.2.2.2.1.1 < 60 := nI_lt (b := 60) c (by decide)
    rw [if_pos lt] at e49
    obtain ⟨h1, x1, k2, t1⟩ : ∃ h1, (∀ F, jx_st h 684 101 (nI C.2.2.2.2.2.1.1) (.int (nI v)) F = F h1) ∧ h1.1 684 = some (101, mz_ar 60 (fun i => .int (nI (mz_up ty C.2.2.2.2.2.1.1 v i)))) ∧ mz_eq 684 685 h h1 := by
      refine ⟨_, fun F => mz_st g2 (by decide) c (by decide) F, ?_, mz_eq_st (by omega) (by omega)⟩
      rw [mz_set_e]
      congr 2
      refine mz_ar_cong (fun j hj => ?_)
      unfold mz_up
      split <;> rfl
    have k1 := mz_eq_at t1 (by omega) g1
    obtain ⟨h2, x2, k3, t2⟩ : ∃ h2, (∀ F, jx_pt h1 683 6 1 (.int (nI (C.2.2.2.2.2.1.1 + 1))) F = F h2) ∧ h2.1 683 = some (6, [.ref (683 + 1), .int (nI (C.2.2.2.2.2.1.1 + 1)), .int (nI po), .ref (683 + 2), .int (nI cc)]) ∧ mz_eq 683 684 h1 h2 :=
      ⟨_, fun F => jx_pt_e k1 (by decide) (by show 1 < 5; decide) F, mz_set_e, mz_eq_st (by omega) (by omega)⟩
    have T : mz_eq 683 710 h h2 := mz_eq_tr (mz_eq_wd t1 (by omega) (by omega)) (mz_eq_wd t2 (by omega) (by omega))
    have V : sc_V h2 683 (C.2.2.2.2.2.1.1 + 1) (mz_up C.2.2.2.2.2.1.2 C.2.2.2.2.2.1.1 v) := by
      refine ⟨po, cc, mz_up ty C.2.2.2.2.2.1.1 v, kw, va, ⟨k3, mz_eq_at t2 (by omega) k2, mz_eq_at t2 (by omega) (mz_eq_at t1 (by omega) g3), fun i hi => ?_, fun i => ?_, by omega, g7, g8, g9⟩, fun i hi => ?_⟩
      · exact ⟨mz_eq_at t2 (by omega) (mz_eq_at t1 (by omega) (g4 i hi).1), mz_eq_at t2 (by omega) (mz_eq_at t1 (by omega) (g4 i hi).2.1), (g4 i hi).2.2⟩
      · unfold mz_up
        split
        · exact hv
        · exact g5 i
      · unfold mz_up
        by_cases z : i = C.2.2.2.2.2.1.1
        · rw [if_pos z, if_pos z]
        · rw [if_neg z, if_neg z]; exact hty i (by omega)
    refine Or.inr ⟨c, h2, ?_, ⟨nx, cl_J_x J V T⟩, mz_eq_wd T (by omega) (by omega)⟩
    have e50 : jx_A 50 [.ref 683, .int (nI v)] h = some (.inl (some (.int (nI (C.2.2.2.2.2.1.1 + 1)))), h2) := by
      rw [a_50, jx_gA_e g1 rfl, jx_gI_e g1 rfl, mz_c16 hv, x1, jx_gI_e k1 rfl, nI_1, x2, jx_gI_e k3 rfl]
    rw [a_106, cl_6 J, jx_is_e g1, jx_cI_e e49, if_pos rfl, cl_6 J, jx_is_e g1, jx_cI_e e50]
  · have lt : ¬ nI C.2.2.2.2.2.1.1 < 60 := nI_nlt (b := 60) (by omega) (by omega)
    rw [if_neg lt] at e49
    refine Or.inl ⟨by omega, ?_⟩
    rw [a_106, cl_6 J, jx_is_e g1, jx_cI_e e49, if_neg (by decide)]
end CL
end JX
