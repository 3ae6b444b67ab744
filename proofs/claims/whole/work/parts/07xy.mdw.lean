/-! The other object's output and input. -/
section JX
def ro_O (R : ro_R) (O : Nat → Nat) (k : Nat) : ro_R := (R.1, R.2.1, R.2.2.1, O, R.2.2.2.2.1, R.2.2.2.2.2.1, R.2.2.2.2.2.2.1, R.2.2.2.2.2.2.2.1, k, R.2.2.2.2.2.2.2.2.2)
def ro_Y (R : ro_R) (X : Nat → Nat) (k : Nat) : ro_R := (R.1, R.2.1, R.2.2.1, R.2.2.2.1, X, R.2.2.2.2.2.1, R.2.2.2.2.2.2.1, R.2.2.2.2.2.2.2.1, R.2.2.2.2.2.2.2.2.1, k, R.2.2.2.2.2.2.2.2.2.2)
abbrev ro_ol (R : ro_R) : Nat := R.2.2.2.2.2.2.2.2.1
abbrev ro_il (R : ro_R) : Nat := R.2.2.2.2.2.2.2.2.2.1
abbrev ro_po (R : ro_R) : Int32 := R.2.2.2.2.2.2.2.2.2.2.1
abbrev ro_mf (R : ro_R) : Bool := R.2.2.2.2.2.2.2.2.2.2.2.1
abbrev ro_kp (R : ro_R) : Int32 := R.2.2.2.2.2.2.2.2.2.2.2.2.1
abbrev ro_kc (R : ro_R) : Int32 := R.2.2.2.2.2.2.2.2.2.2.2.2.2.1
abbrev ro_cn (R : ro_R) : Nat := R.2.2.2.2.2.2.2.2.2.2.2.2.2.2
section MO
variable {h : jx_H} {y : Nat} {S : Nat → Nat} {th : Int32} {R : ro_R}
theorem ro_7 (J : ro_I h y S th R) (F : Nat → jx_R) : jx_gA h y 8 7 F = F (y + 5) := jx_gA_e J.1.1 rfl F
theorem ro_8 (J : ro_I h y S th R) (F : Int32 → jx_R) : jx_gI h y 8 8 F = F (nI (ro_ol R)) := jx_gI_e J.1.1 rfl F
theorem ro_9 (J : ro_I h y S th R) (F : Nat → jx_R) : jx_gA h y 8 9 F = F (y + 6) := jx_gA_e J.1.1 rfl F
theorem ro_10 (J : ro_I h y S th R) (F : Int32 → jx_R) : jx_gI h y 8 10 F = F (nI (ro_il R)) := jx_gI_e J.1.1 rfl F
theorem ro_11 (J : ro_I h y S th R) (F : Int32 → jx_R) : jx_gI h y 8 11 F = F (ro_po R) := jx_gI_e J.1.1 rfl F
theorem ro_12 (J : ro_I h y S th R) (F : Int32 → jx_R) : jx_gI h y 8 12 F = F (bI (ro_mf R)) := jx_gI_e J.1.1 rfl F
theorem ro_13 (J : ro_I h y S th R) (F : Int32 → jx_R) : jx_gI h y 8 13 F = F (ro_kp R) := jx_gI_e J.1.1 rfl F
theorem ro_14 (J : ro_I h y S th R) (F : Int32 → jx_R) : jx_gI h y 8 14 F = F (ro_kc R) := jx_gI_e J.1.1 rfl F
theorem ro_15 (J : ro_I h y S th R) (F : Nat → jx_R) : jx_gA h y 8 15 F = F (y + 7) := jx_gA_e J.1.1 rfl F
theorem ro_16 (J : ro_I h y S th R) (F : Int32 → jx_R) : jx_gI h y 8 16 F = F (nI (ro_cn R)) := jx_gI_e J.1.1 rfl F
/-- the number of characters put out is written -/
theorem ro_p8 (J : ro_I h y S th R) (v : Nat) : ∃ h', (∀ F, jx_pt h y 8 8 (.int (nI v)) F = F h') ∧ ro_I h' y S th (ro_O R R.2.2.2.1 v) ∧ mz_eq y (y + 8) h h' :=
  ⟨_, fun F => jx_pt_e J.1.1 (ro_nc J) (by show 8 < 17; decide) F, ro_ob J (mz_eq_st (Nat.le_refl _) (Nat.lt_succ_self _)) mz_set_e rfl rfl rfl rfl rfl rfl, mz_eq_st (by omega) (by omega)⟩
theorem ro_p10 (J : ro_I h y S th R) (v : Nat) : ∃ h', (∀ F, jx_pt h y 8 10 (.int (nI v)) F = F h') ∧ ro_I h' y S th (ro_Y R R.2.2.2.2.1 v) ∧ mz_eq y (y + 8) h h' :=
  ⟨_, fun F => jx_pt_e J.1.1 (ro_nc J) (by show 10 < 17; decide) F, ro_ob J (mz_eq_st (Nat.le_refl _) (Nat.lt_succ_self _)) mz_set_e rfl rfl rfl rfl rfl rfl, mz_eq_st (by omega) (by omega)⟩
theorem ro_po5 (J : ro_I h y S th R) {k : Nat} (hk : k < 20) (v : Nat) : ∃ h', (∀ F, jx_st h (y + 5) 101 (nI k) (.int (nI v)) F = F h') ∧ ro_I h' y S th (ro_O R (mz_up R.2.2.2.1 k v) (ro_ol R)) ∧ mz_eq y (y + 8) h h' := by
  obtain ⟨⟨j1, j2, j3⟩, j4, j5, j6, j7, j8, j9⟩ := J
  refine ⟨_, fun F => mz_st j7 (by omega) hk (by decide) F, ⟨⟨?_, ?_, j3⟩, ?_, ?_, ?_, ?_, ?_, ?_⟩, mz_eq_st (by omega) (by omega)⟩
  · rw [mz_set_n (by omega)]; exact j1
  · rw [mz_set_n (by omega)]; exact j2
  · rw [mz_set_n (by omega)]; exact j4
  · rw [mz_set_n (by omega)]; exact j5
  · rw [mz_set_n (by omega)]; exact j6
  · rw [mz_set_e]
    refine congrArg (fun l => some (101, l)) (mz_ar_cong fun i _ => ?_)
    show _ = Value.int (nI (mz_up R.2.2.2.1 k v i))
    unfold mz_up
    split <;> rfl
  all_goals rw [mz_set_n (by omega)]; assumption
theorem ro_po6 (J : ro_I h y S th R) {k : Nat} (hk : k < 60) (v : Nat) : ∃ h', (∀ F, jx_st h (y + 6) 101 (nI k) (.int (nI v)) F = F h') ∧ ro_I h' y S th (ro_Y R (mz_up R.2.2.2.2.1 k v) (ro_il R)) ∧ mz_eq y (y + 8) h h' := by
  obtain ⟨⟨j1, j2, j3⟩, j4, j5, j6, j7, j8, j9⟩ := J
  refine ⟨_, fun F => mz_st j8 (by omega) hk (by decide) F, ⟨⟨?_, ?_, j3⟩, ?_, ?_, ?_, ?_, ?_, ?_⟩, mz_eq_st (by omega) (by omega)⟩
  · rw [mz_set_n (by omega)]; exact j1
  · rw [mz_set_n (by omega)]; exact j2
  · rw [mz_set_n (by omega)]; exact j4
  · rw [mz_set_n (by omega)]; exact j5
  · rw [mz_set_n (by omega)]; exact j6
  · rw [mz_set_n (by omega)]; exact j7
  · rw [mz_set_e]
    refine congrArg (fun l => some (101, l)) (mz_ar_cong fun i _ => ?_)
    show _ = Value.int (nI (mz_up R.2.2.2.2.1 k v i))
    unfold mz_up
    split <;> rfl
  · rw [mz_set_n (by omega)]; exact j9
theorem ro_rd5 (J : ro_I h y S th R) {k : Nat} (hk : k < 20) (F : Int32 → jx_R) : jx_lI h (y + 5) 101 (nI k) F = F (nI (R.2.2.2.1 k)) := mz_lI J.2.2.2.2.1 hk (by decide) rfl F
theorem ro_rd6 (J : ro_I h y S th R) {k : Nat} (hk : k < 60) (F : Int32 → jx_R) : jx_lI h (y + 6) 101 (nI k) F = F (nI (R.2.2.2.2.1 k)) := mz_lI J.2.2.2.2.2.1 hk (by decide) rfl F
/-- a character is put out -/
theorem m_222 (J : ro_I h y S th R) (hk : ro_ol R < 20) {v : Nat} (hv : v < 65536) : ∃ h', jx_A 222 [.ref y, .int (nI v)] h = some (.inl none, h') ∧ ro_I h' y S th (ro_O R (mz_up R.2.2.2.1 (ro_ol R) v) (ro_ol R + 1)) ∧ mz_eq y (y + 8) h h' := by
  obtain ⟨h1, x1, J1, t1⟩ := ro_po5 J hk v
  obtain ⟨h2, x2, J2, t2⟩ := ro_p8 J1 (ro_ol R + 1)
  refine ⟨h2, ?_, J2, mz_eq_tr t1 t2⟩
  rw [a_222, ro_7 J, ro_8 J, mz_c16 hv, mz_c16 hv, x1, ro_8 J1]
  show jx_pt h1 y 8 8 (.int (nI (ro_ol R) + 1)) _ = _
  rw [nI_1, x2]
theorem mz_88 : ∀ r, r < 8 → (8 : Int32) * nI r = nI (8 * r) ∧ ((8 : Int32) * nI r) + 8 = nI (8 * r + 8) := by decide +kernel
theorem m_223 {M : mm_T} (I : ro_I h y S th R) (Q : ro_S S M) (v : Int32) :
    (∃ r h' O, r ≤ 7 ∧ v = nI r ∧ jx_A 223 [.ref y, .int v] h = some (.inl (some (.int 8)), h') ∧ ro_I h' y S 0 (ro_O R O 8) ∧ (∀ j, j < 8 → O j = mm_sg M (8 * r + j)) ∧ mz_eq y (y + 8) h h') ∨
    ((∀ i, i ≤ 7 → v ≠ nI i) ∧ ∃ h', jx_A 223 [.ref y, .int v] h = some (.inl (some (.int 0)), h') ∧ ro_I h' y S 1 R ∧ mz_eq y (y + 8) h h') := by
  obtain ⟨p, A, g, B, hF, ho⟩ := Q
  rcases m_135r v 7 (by decide) h with ⟨r, hr, rfl, q⟩ | ⟨hr, q⟩
  · left
    obtain ⟨h1, x1, I1, t1⟩ := m_139 I true
    obtain ⟨h2, x2, I2, t2⟩ := ro_p8 I1 0
    obtain ⟨e8, e88⟩ := mz_88 r (by omega)
    have key : ∃ h' O, jx_E 223 26 [.ref y, .int (nI r), .int (nI (8 * r + 0)), jx_j] [] h2 = some (.inl (some (.int 8)), h') ∧ ro_I h' y S 0 (ro_O R O 8) ∧ (∀ j, j < 8 → O j = mm_sg M (8 * r + j)) ∧ mz_eq y (y + 8) h h' := by
      refine mz_inv (γ := jx_H × (Nat → Nat) × Value) (fun i z => jx_E 223 26 [.ref y, .int (nI r), .int (nI (8 * r + i)), z.2.2] [] z.1) (fun i z => ro_I z.1 y S 0 (ro_O R z.2.1 i) ∧ (∀ j, j < i → z.2.1 j = mm_sg M (8 * r + j)) ∧ mz_eq y (y + 8) h z.1) 8 (fun X => ∃ h' O, X = some (.inl (some (.int 8)), h') ∧ ro_I h' y S 0 (ro_O R O 8) ∧ (∀ j, j < 8 → O j = mm_sg M (8 * r + j)) ∧ mz_eq y (y + 8) h h') ?_ ?_ 0 (h2, R.2.2.2.1, jx_j) (by decide) ⟨I2, fun j hj => absurd hj (Nat.not_lt_zero _), mz_eq_tr t1 t2⟩
      · rintro ⟨h3, O, w⟩ ⟨I3, hO, t3⟩
        dsimp only at I3 hO t3 ⊢
        refine ⟨h3, O, ?_, I3, hO, t3⟩
        rw [b_223_26, e88, if_pos (Int32.le_refl _), ro_8 I3]
        rfl
      · rintro i ⟨h3, O, w⟩ hi ⟨I3, hO, t3⟩
        dsimp only at I3 hO t3
        right
        have hc : 8 * r + i < 64 := by omega
        have J3 : rq_J h3 y (ro_fs y 0 (ro_O R O i)) S M.1 M.2.1 p A g := ⟨I3.1, B⟩
        have oc := ho _ hc
        unfold bd_o at oc
        have put : ∀ v, v < 65536 → v = mm_sg M (8 * r + i) → ∃ h4, jx_A 222 [.ref y, .int (nI v)] h3 = some (.inl none, h4) ∧ ro_I h4 y S 0 (ro_O R (mz_up O i v) (i + 1)) ∧ (∀ j, j < i + 1 → mz_up O i v j = mm_sg M (8 * r + j)) ∧ mz_eq y (y + 8) h h4 := by
          intro v hv ev
          obtain ⟨h4, x4, I4, t4⟩ := m_222 I3 (show i < 20 by omega) hv
          refine ⟨h4, x4, I4, fun j hj => ?_, mz_eq_tr t3 t4⟩
          by_cases z : j = i
          · subst z; rw [mz_up_s]; exact ev
          · rw [mz_up_n z]; exact hO j (by omega)
        have E : jx_E 223 26 [.ref y, .int (nI r), .int (nI (8 * r + i)), w] [] h3 = if nI (rq_g (g (8 * r + i))) - 1 < 0 then (jx_cI jx_A 159 [.ref y, .int (nI (8 * r + i))] h3 (fun y6 h5 => if y6 = 0 then (jx_is h5 y 8 (jx_cV jx_A 222 [.ref y, .int 46] h5 (fun h7 => jx_E 223 26 [.ref y, .int (nI r), .int (nI (8 * r + (i + 1))), .int (nI (rq_g (g (8 * r + i))) - 1)] [] h7))) else (jx_is h5 y 8 (jx_cV jx_A 222 [.ref y, .int 43] h5 (fun h8 => jx_E 223 26 [.ref y, .int (nI r), .int (nI (8 * r + (i + 1))), .int (nI (rq_g (g (8 * r + i))) - 1)] [] h8))))) else (jx_cI jx_A 140 [.ref y, .int (nI (rq_g (g (8 * r + i))) - 1), .int 1] h3 (fun y10 h9 => jx_is h9 y 8 (jx_cV jx_A 222 [.ref y, .int y10] h9 (fun h11 => jx_E 223 26 [.ref y, .int (nI r), .int (nI (8 * r + (i + 1))), .int (nI (rq_g (g (8 * r + i))) - 1)] [] h11)))) := by
          rw [b_223_26, e88, if_neg (nI_ge (show 8 * r + i < 8 * r + 8 by omega) (by omega)), ro_0 I3, rq_c J3 hc, rq_is J3, rq_is J3, nI_1]
          rfl
        show ∃ z', _ ∧ jx_E 223 26 [.ref y, .int (nI r), .int (nI (8 * r + i)), w] [] h3 = jx_E 223 26 _ _ _
        rw [E]
        cases eg : g (8 * r + i) with
        | none =>
          rw [eg] at oc
          have oc : M.2.2.2 (8 * r + i) = none := oc.symm
          rw [if_pos (show nI (rq_g none) - 1 < 0 by decide), jx_cI_e (m_159 J3 hc), mm_gap_cong ho hc]
          cases gp : mm_gap M.2.2.2 (8 * r + i) with
          | false =>
            obtain ⟨h4, x4, I4, hO4, t4⟩ := put 46 (by decide) (by unfold mm_sg; rw [oc, gp]; rfl)
            refine ⟨(h4, mz_up O i 46, .int (nI (rq_g none) - 1)), ⟨I4, hO4, t4⟩, ?_⟩
            rw [if_pos (show bI false = 0 from rfl), ro_is I3, jx_cV_e (show jx_A 222 [.ref y, .int 46] h3 = _ from x4)]
          | true =>
            obtain ⟨h4, x4, I4, hO4, t4⟩ := put 43 (by decide) (by unfold mm_sg; rw [oc, gp]; rfl)
            refine ⟨(h4, mz_up O i 43, .int (nI (rq_g none) - 1)), ⟨I4, hO4, t4⟩, ?_⟩
            rw [if_neg (by decide), ro_is I3, jx_cV_e (show jx_A 222 [.ref y, .int 43] h3 = _ from x4)]
        | some z =>
          obtain ⟨k, hk, rfl, -⟩ := rq_gs J3 hc eg
          have hn := rq_n J3
          have pk := rq_p J3 (show k < 20 by omega)
          rw [eg] at oc
          have oc : M.2.2.2 (8 * r + i) = some (A (p k)) := oc.symm
          have ok := rq_ok J3 hk
          obtain ⟨h4, x4, I4, hO4, t4⟩ := put (fg_co (A (p k))) ok.2.1 (by unfold mm_sg; rw [oc])
          refine ⟨(h4, mz_up O i (fg_co (A (p k))), .int (nI (p k))), ⟨I4, hO4, t4⟩, ?_⟩
          rw [show nI (rq_g (some (p k))) - 1 = nI (p k) from nI_pred _, if_neg (nI_pos (by omega)), jx_cI_e (m_140f J3 hk), ro_is I3, jx_cV_e x4]
    obtain ⟨h', O, k1, k2, k3, k4⟩ := key
    refine ⟨r, h', O, hr, rfl, ?_, k2, k3, k4⟩
    rw [a_223, jx_cI_e (show jx_A 135 [.int (nI r), .int 0, .int 7] h = _ from q), ro_is I, jx_cI_e (show jx_A 139 [.ref y, .int 1] h = _ from x1), if_neg (by decide), show (Value.int 0) = Value.int (nI 0) from rfl, x2, e8]
    exact k1
  · right
    refine ⟨hr, ?_⟩
    obtain ⟨h1, x1, I1, t1⟩ := m_139 I false
    exact ⟨h1, by rw [a_223, jx_cI_e (show jx_A 135 [.int v, .int 0, .int 7] h = _ from q), ro_is I, jx_cI_e (show jx_A 139 [.ref y, .int 0] h = _ from x1), if_pos (show bI false = 0 from rfl)], I1, t1⟩
theorem mz_hx2 : ∀ v, v < 16 → (10 ≤ v → ((97 : Int32) + nI v) - 10 = nI (mm_hx v)) ∧ (v < 10 → (48 : Int32) + nI v = nI (mm_hx v)) ∧ mm_hx v < 65536 := by decide +kernel
/-- a run put out, character by character -/
def rw_I (h0 : jx_H) (y : Nat) (S : Nat → Nat) (R : ro_R) (f : Nat → Nat) (k : Nat) (h : jx_H) (O : Nat → Nat) : Prop := ro_I h y S 0 (ro_O R O k) ∧ (∀ j, j < k → O j = f j) ∧ mz_eq y (y + 8) h0 h
theorem rw_s {h0 : jx_H} {f : Nat → Nat} {k : Nat} {O : Nat → Nat} (W : rw_I h0 y S R f k h O) (hk : k < 20) {v : Nat} (hv : v < 65536) (e : v = f k) : ∃ h' O', jx_A 222 [.ref y, .int (nI v)] h = some (.inl none, h') ∧ rw_I h0 y S R f (k + 1) h' O' := by
  obtain ⟨I, hO, t⟩ := W
  obtain ⟨h4, x4, I4, t4⟩ := m_222 I hk hv
  refine ⟨h4, mz_up O k v, x4, I4, fun j hj => ?_, mz_eq_tr t t4⟩
  by_cases z : j = k
  · subst z; rw [mz_up_s]; exact e
  · rw [mz_up_n z]; exact hO j (by omega)
theorem m_224 {M : mm_T} (I : ro_I h y S th R) (Q : ro_S S M) (O : mm_ok M) (v : Int32) :
    (∃ k h' O, mm_fd M v (some k) ∧ jx_A 224 [.ref y, .int v] h = some (.inl (some (.int (nI (mm_of (M.2.2.1 k)).1))), h') ∧ ro_I h' y S 0 (ro_O R O (mm_of (M.2.2.1 k)).1) ∧ (∀ j, j < (mm_of (M.2.2.1 k)).1 → O j = (mm_of (M.2.2.1 k)).2 j) ∧ mz_eq y (y + 8) h h') ∨
    (mm_fd M v none ∧ ∃ h', jx_A 224 [.ref y, .int v] h = some (.inl (some (.int 0)), h') ∧ ro_I h' y S 1 R ∧ mz_eq y (y + 8) h h') := by
  obtain ⟨p, A, g, B, hF, ho⟩ := Q
  have J : rq_J h y (ro_fs y th R) S M.1 M.2.1 p A g := ⟨I.1, B⟩
  have hn := rq_n J
  obtain ⟨o, hf, e⟩ := m_144 J (rq_AU (mm_okA O hF)) v
  have hf' : mm_fd M v o := bd_fd_cong hF hf
  cases o with
  | none =>
    obtain ⟨h1, x1, I1, t1⟩ := m_139 I false
    refine Or.inr ⟨hf', h1, ?_, I1, t1⟩
    rw [a_224, rq_is J, jx_cI_e e, if_pos (show (-1 : Int32) < 0 by decide), b_224_16, ro_is I, jx_cI_e (show jx_A 139 [.ref y, .int 0] h = _ from x1), if_pos (show bI false = 0 from rfl)]
  | some k =>
    have hk : k < M.1 := hf.1
    have pk := rq_p J (show k < 20 by omega)
    have ok := rq_ok J hk
    left
    obtain ⟨h1, x1, I1, t1⟩ := m_139 I true
    obtain ⟨h2, x2, I2, t2⟩ := ro_p8 I1 0
    have W2 : rw_I h y S R (mm_of (A (p k))).2 0 h2 R.2.2.2.1 := ⟨I2, fun j hj => absurd hj (Nat.not_lt_zero _), mz_eq_tr t1 t2⟩
    have JJ : ∀ {i h' O'}, rw_I h y S R (mm_of (A (p k))).2 i h' O' → rq_J h' y (ro_fs y 0 (ro_O R O' i)) S M.1 M.2.1 p A g := fun W => ⟨W.1.1, B⟩
    obtain ⟨h3, O3, x3, W3⟩ := rw_s W2 (by decide) ok.2.1 rfl
    have fin : ∀ {h' O' w}, rw_I h y S R (mm_of (A (p k))).2 5 h' O' → ∃ h'' O'', jx_E 224 41 [.ref y, .int v, .int (nI (p k)), .int 4, w] [] h' = some (.inl (some (.int (nI (mm_of (A (p k))).1))), h'') ∧ ro_I h'' y S 0 (ro_O R O'' (mm_of (A (p k))).1) ∧ (∀ j, j < (mm_of (A (p k))).1 → O'' j = (mm_of (A (p k))).2 j) ∧ mz_eq y (y + 8) h h'' := by
      intro h' O' w W
      rw [b_224_41, if_pos (by decide), ro_is W.1, jx_cI_e (m_145 (JJ W) hk)]
      cases eo : fg_on (A (p k)) with
      | false =>
        have m5 : (mm_of (A (p k))).1 = 5 := by unfold mm_of; rw [eo]; rfl
        rw [if_pos (show bI false = 0 from rfl), ro_8 W.1, m5]
        exact ⟨h', O', rfl, W.1, W.2.1, W.2.2⟩
      | true =>
        have m8 : (mm_of (A (p k))).1 = 8 := by unfold mm_of; rw [eo]; rfl
        have c1 := fg_on_1.mp eo
        obtain ⟨c, hce⟩ : ∃ c, fg_ce (A (p k)) = c + 1 := ⟨fg_ce (A (p k)) - 1, by omega⟩
        have hc : c < 64 := by have := ok.2.2.2.2; omega
        obtain ⟨d1, d2⟩ := mz_dv8 c hc
        obtain ⟨-, u1, u2⟩ := mz_hx2 (c / 8) (by omega)
        obtain ⟨-, w1, w2⟩ := mz_hx2 (c % 8) (by omega)
        obtain ⟨h4, O4, x4, W4⟩ := rw_s W (by decide) (v := 64) (by decide) rfl
        obtain ⟨h5, O5, x5, W5⟩ := rw_s W4 (by decide) (v := mm_hx (c / 8)) u2 (by
          show _ = mm_hx ((fg_ce (A (p k)) - 1) / 8)
          rw [hce]; rfl)
        obtain ⟨h6, O6, x6, W6⟩ := rw_s W5 (by decide) (v := mm_hx (c % 8)) w2 (by
          show _ = mm_hx ((fg_ce (A (p k)) - 1) % 8)
          rw [hce]; rfl)
        rw [if_neg (by decide), ro_is W.1, jx_cI_e (m_140c (JJ W) hk), hce, nI_pred, ro_is W.1, jx_cV_e (show jx_A 222 [.ref y, .int 64] h' = _ from x4), ro_is W4.1, d1, u1 (by omega), jx_cV_e x5, ro_is W5.1, show nI c - nI (c / 8) * 8 = nI (c % 8) from by rw [← d1]; exact d2, w1 (by omega), jx_cV_e x6, ro_8 W6.1, m8]
        exact ⟨h6, O6, rfl, W6.1, W6.2.1, W6.2.2⟩
    have key : ∃ h'' O'', jx_E 224 41 [.ref y, .int v, .int (nI (p k)), .int (nI 0), jx_j] [] h3 = some (.inl (some (.int (nI (mm_of (A (p k))).1))), h'') ∧ ro_I h'' y S 0 (ro_O R O'' (mm_of (A (p k))).1) ∧ (∀ j, j < (mm_of (A (p k))).1 → O'' j = (mm_of (A (p k))).2 j) ∧ mz_eq y (y + 8) h h'' := by
      refine mz_inv (γ := jx_H × (Nat → Nat) × Value) (fun i z => jx_E 224 41 [.ref y, .int v, .int (nI (p k)), .int (nI i), z.2.2] [] z.1) (fun i z => rw_I h y S R (mm_of (A (p k))).2 (i + 1) z.1 z.2.1) 4 (fun X => ∃ h'' O'', X = some (.inl (some (.int (nI (mm_of (A (p k))).1))), h'') ∧ ro_I h'' y S 0 (ro_O R O'' (mm_of (A (p k))).1) ∧ (∀ j, j < (mm_of (A (p k))).1 → O'' j = (mm_of (A (p k))).2 j) ∧ mz_eq y (y + 8) h h'') ?_ ?_ 0 (h3, O3, jx_j) (by decide) W3
      · rintro ⟨h', O', w⟩ W
        exact fin W
      · rintro i ⟨h', O', w⟩ hi W
        dsimp only at W
        right
        have lt := fg_at_lt ok i
        obtain ⟨u0, u1, u2⟩ := mz_hx2 _ lt
        obtain ⟨h4, O4, x4, W4⟩ := rw_s W (by omega) u2 (by
          match i, hi with
          | 0, _ => rfl
          | 1, _ => rfl
          | 2, _ => rfl
          | 3, _ => rfl)
        refine ⟨(h4, O4, .int (nI (fg_at (A (p k)) i))), W4, ?_⟩
        show jx_E 224 41 _ _ _ = jx_E 224 41 _ _ _
        rw [b_224_41, if_neg (show ¬ 4 ≤ nI i from nI_ge (b := 4) hi (by decide)), ro_is W.1, jx_cI_e (m_140t (JJ W) hk), ro_is W.1, jx_cI_e (m_153 (JJ W) hk hi ok.2.2.2.1)]
        show (if (10 : Int32) ≤ nI (fg_at (A (p k)) i) then (jx_is h' y 8 (jx_cV jx_A 222 [.ref y, .int ((97 + nI (fg_at (A (p k)) i)) - 10)] h' (fun h16 => jx_E 224 41 [.ref y, .int v, .int (nI (p k)), .int (nI i + 1), .int (nI (fg_at (A (p k)) i))] [] h16))) else (jx_is h' y 8 (jx_cV jx_A 222 [.ref y, .int (48 + nI (fg_at (A (p k)) i))] h' (fun h17 => jx_E 224 41 [.ref y, .int v, .int (nI (p k)), .int (nI i + 1), .int (nI (fg_at (A (p k)) i))] [] h17)))) = _
        rw [ro_is W.1, ro_is W.1, nI_1]
        by_cases c : 10 ≤ fg_at (A (p k)) i
        · rw [if_pos (show (10 : Int32) ≤ nI _ from nI_le (a := 10) c (by omega)), u0 c, jx_cV_e x4]
        · rw [if_neg (show ¬ (10 : Int32) ≤ nI _ from nI_ge (b := 10) (by omega) (by decide)), u1 (by omega), jx_cV_e x4]
    obtain ⟨h', O', k1, k2, k3, k4⟩ := key
    rw [hF k hk] at k1 k2 k3
    refine ⟨k, h', O', hf', ?_, k2, k3, k4⟩
    rw [a_224, rq_is J, jx_cI_e e, if_neg (show ¬ nI (p k) < 0 from nI_pos (by omega)), b_224_16, ro_is I, jx_cI_e (show jx_A 139 [.ref y, .int 1] h = _ from x1), if_neg (by decide), show (Value.int 0) = Value.int (nI 0) from rfl, x2, ro_is I2, jx_cI_e (m_140f (JJ W2) hk), ro_is I2, jx_cV_e x3]
    exact k1
/-- what has been put out, read -/
theorem m_225 (I : ro_I h y S th R) (hk : ro_ol R ≤ 8) (hc : ∀ j, j < ro_ol R → R.2.2.2.1 j < 65536) (v : Int32) :
    (∃ j, j < ro_ol R ∧ v = nI j ∧ ∃ h', jx_A 225 [.ref y, .int v] h = some (.inl (some (.int (nI (R.2.2.2.1 j)))), h') ∧ ro_I h' y S 0 R ∧ mz_eq y (y + 8) h h') ∨
    ((∀ j, j < ro_ol R → v ≠ nI j) ∧ ∃ h', jx_A 225 [.ref y, .int v] h = some (.inl (some (.int 32)), h') ∧ ro_I h' y S 1 R ∧ mz_eq y (y + 8) h h') := by
  have no : (∀ j, j < ro_ol R → v ≠ nI j) → jx_A 135 [.int v, .int 0, .int (nI (ro_ol R) - 1)] h = some (.inl (some (.int 0)), h) → ∃ h', jx_A 225 [.ref y, .int v] h = some (.inl (some (.int 32)), h') ∧ ro_I h' y S 1 R ∧ mz_eq y (y + 8) h h' := by
    intro _ q
    obtain ⟨h1, x1, I1, t1⟩ := m_139 I false
    exact ⟨h1, by rw [a_225, ro_8 I, jx_cI_e q, ro_is I, jx_cI_e (show jx_A 139 [.ref y, .int 0] h = _ from x1), if_pos (show bI false = 0 from rfl)], I1, t1⟩
  cases e : ro_ol R with
  | zero =>
    right
    have n : ∀ j, j < ro_ol R → v ≠ nI j := fun j hj => by omega
    refine ⟨fun j hj => absurd hj (Nat.not_lt_zero _), no n ?_⟩
    rw [e, m_135]
    by_cases c : 0 ≤ v
    · rw [decide_eq_true c, decide_eq_false (show ¬ v ≤ nI 0 - 1 from fun q => absurd (Int32.le_trans c q) (by decide))]; rfl
    · rw [decide_eq_false c]; rfl
  | succ m =>
    rcases m_135r v m (by omega) h with ⟨j, hj, rfl, q⟩ | ⟨hj, q⟩
    · left
      refine ⟨j, by omega, rfl, ?_⟩
      obtain ⟨h1, x1, I1, t1⟩ := m_139 I true
      have l := hc j (by omega)
      refine ⟨h1, ?_, I1, t1⟩
      rw [a_225, ro_8 I, e, nI_pred, jx_cI_e q, ro_is I, jx_cI_e (show jx_A 139 [.ref y, .int 1] h = _ from x1), if_neg (by decide), ro_7 I1, ro_rd5 I1 (by omega), if_pos ⟨nI_pos' (by omega), nI_lt (b := 65536) l (by decide)⟩]
    · right
      refine ⟨fun j h1 => hj j (by omega), no (fun j h1 => hj j (by omega)) (by rw [e, nI_pred]; exact q)⟩
/-- a character is fed -/
theorem m_226 (I : ro_I h y S th R) (hk : ro_il R ≤ 60) {v : Nat} (hv : v < 65536) :
    (ro_il R = 60 ∧ ∃ h', jx_A 226 [.ref y, .int (nI v)] h = some (.inl (some (.int 0)), h') ∧ ro_I h' y S 1 R ∧ mz_eq y (y + 8) h h') ∨
    (ro_il R < 60 ∧ ∃ h', jx_A 226 [.ref y, .int (nI v)] h = some (.inl (some (.int (nI (ro_il R + 1)))), h') ∧ ro_I h' y S 0 (ro_Y R (mz_up R.2.2.2.2.1 (ro_il R) v) (ro_il R + 1)) ∧ mz_eq y (y + 8) h h') := by
  by_cases c : ro_il R = 60
  · left
    refine ⟨c, ?_⟩
    obtain ⟨h1, x1, I1, t1⟩ := ro_pth I 1
    exact ⟨h1, by rw [a_226, ro_10 I, if_pos (by rw [c]; decide), b_226_15, x1, ro_6 I1, if_neg (by decide)], I1, t1⟩
  · right
    refine ⟨by omega, ?_⟩
    obtain ⟨h1, x1, I1, t1⟩ := ro_pth I 0
    obtain ⟨h2, x2, I2, t2⟩ := ro_po6 I1 (k := ro_il R) (by omega) v
    obtain ⟨h3, x3, I3, t3⟩ := ro_p10 I2 (ro_il R + 1)
    refine ⟨h3, ?_, I3, mz_eq_tr t1 (mz_eq_tr t2 t3)⟩
    rw [a_226, ro_10 I, if_neg (show ¬ nI (ro_il R) = 60 from fun q => c ((nI_eq (b := 60) (by omega) (by decide)).mp q)), b_226_15, x1, ro_6 I1, if_pos (by decide), ro_9 I1, ro_10 I1, mz_c16 hv, x2, ro_10 I2]
    show jx_pt h2 y 8 10 (.int (nI (ro_il R) + 1)) _ = _
    rw [nI_1, x3, ro_10 I3]
    rfl
/-- what is kept of the commands -/
theorem m_235 (I : ro_I h y S th R) (hk : ro_kp R = -1 ∨ ¬ ro_kp R < 0) : ∃ h', mz_eq y (y + 8) h h' ∧ if ro_kp R = -1 then jx_A 235 [.ref y] h = some (.inl (some (.int 0)), h') ∧ ro_I h' y S 1 R else jx_A 235 [.ref y] h = some (.inl (some (.int (ro_kp R))), h') ∧ ro_I h' y S 0 R := by
  by_cases c : ro_kp R = -1
  · obtain ⟨h1, x1, I1, t1⟩ := m_139 I false
    refine ⟨h1, t1, ?_⟩
    rw [if_pos c]
    refine ⟨?_, I1⟩
    rw [a_235, ro_13 I, if_pos (by rw [c]; decide), ro_is I, jx_cI_e (show jx_A 139 [.ref y, .int 0] h = _ from x1), if_pos (show bI false = 0 from rfl)]
  · obtain ⟨h1, x1, I1, t1⟩ := m_139 I true
    refine ⟨h1, t1, ?_⟩
    rw [if_neg c]
    refine ⟨?_, I1⟩
    rw [a_235, ro_13 I, if_neg (by rcases hk with q | q; exact absurd q c; exact q), ro_is I, jx_cI_e (show jx_A 139 [.ref y, .int 1] h = _ from x1), if_neg (by decide), ro_13 I1]
theorem m_236 (I : ro_I h y S th R) (hk : ro_kc R = -1 ∨ ¬ ro_kc R < 0) : ∃ h', mz_eq y (y + 8) h h' ∧ if ro_kc R = -1 then jx_A 236 [.ref y] h = some (.inl (some (.int 0)), h') ∧ ro_I h' y S 1 R else jx_A 236 [.ref y] h = some (.inl (some (.int (ro_kc R))), h') ∧ ro_I h' y S 0 R := by
  by_cases c : ro_kc R = -1
  · obtain ⟨h1, x1, I1, t1⟩ := m_139 I false
    refine ⟨h1, t1, ?_⟩
    rw [if_pos c]
    refine ⟨?_, I1⟩
    rw [a_236, ro_14 I, if_pos (by rw [c]; decide), ro_is I, jx_cI_e (show jx_A 139 [.ref y, .int 0] h = _ from x1), if_pos (show bI false = 0 from rfl)]
  · obtain ⟨h1, x1, I1, t1⟩ := m_139 I true
    refine ⟨h1, t1, ?_⟩
    rw [if_neg c]
    refine ⟨?_, I1⟩
    rw [a_236, ro_14 I, if_neg (by rcases hk with q | q; exact absurd q c; exact q), ro_is I, jx_cI_e (show jx_A 139 [.ref y, .int 1] h = _ from x1), if_neg (by decide), ro_14 I1]
end MO
end JX
