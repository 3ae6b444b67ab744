/-! The other object's past: undoing, saving, restoring. -/
section JX
def ro_sv (R : ro_R) : Bool := R.2.2.2.2.2.2.1
def ro_V (R : ro_R) (V : Nat → Nat) : ro_R := (R.1, V, R.2.2.1, R.2.2.2.1, R.2.2.2.2.1, R.2.2.2.2.2.1, true, R.2.2.2.2.2.2.2)
section RD
variable {h : jx_H} {y : Nat} {S : Nat → Nat} {R : ro_R} {M : mm_T} {th : Int32}
theorem m_238 (I : ro_I h y S th R) : ∃ h', jx_A 238 [.ref y] h = some (.inl (some (.int (nI (ro_pm R)))), h') ∧ ro_I h' y S 0 R ∧ mz_eq y (y + 8) h h' := by
  obtain ⟨h1, x1, I1, t1⟩ := ro_pth I 0
  exact ⟨h1, by rw [a_238, x1, ro_5 I1], I1, t1⟩
theorem m_237 (I : ro_I h y S th R) (hp : ro_pm R ≤ 8) : (ro_pm R = 0 ∧ ∃ h', jx_A 237 [.ref y] h = some (.inl (some (.int 0)), h') ∧ ro_I h' y S 1 R ∧ mz_eq y (y + 8) h h') ∨
    (ro_pm R ≠ 0 ∧ ∃ h', jx_A 237 [.ref y] h = some (.inl (some (.int (nI (ro_pm R - 1)))), h') ∧ ro_I h' y (fun q => R.2.2.1 (225 * (ro_pm R - 1) + q)) 0 (ro_P R R.2.2.1 (ro_pm R - 1)) ∧ mz_eq y (y + 8) h h') := by
  by_cases c : ro_pm R = 0
  · obtain ⟨h1, x1, I1, t1⟩ := ro_pth I 1
    refine Or.inl ⟨c, h1, ?_, I1, t1⟩
    rw [a_237, ro_5 I, if_pos (by rw [c]; decide), b_237_13, x1, ro_6 I1, if_neg (by decide)]
  · obtain ⟨k, hk⟩ : ∃ k, ro_pm R = k + 1 := ⟨ro_pm R - 1, by omega⟩
    obtain ⟨h1, x1, I1, t1⟩ := ro_pth I 0
    obtain ⟨h2, x2, I2, t2⟩ := ro_ppm I1 k
    have n := ro_nc I2
    have e5 : ∀ F, jx_gI h2 y 8 5 F = F (nI k) := fun F => ro_5 I2 F
    obtain ⟨⟨j1, j2, j3⟩, j4, j5, j6, j7, j8, j9⟩ := id I2
    have hk1 : ro_pm R - 1 = k := by omega
    refine Or.inr ⟨c, jx_set h2 (y + 1) (100, mz_ar 225 (fun q => .int (nI (mz_cq R.2.2.1 S (225 * k) 0 225 q)))), ?_, ?_, mz_eq_tr t1 (mz_eq_tr t2 (mz_eq_st (by omega) (by omega)))⟩
    · have j6' : h2.1 (y + 4) = some (100, mz_ar 1800 (fun q => .int (nI (R.2.2.1 q)))) := j6
      have g5 : ∀ (h4 : jx_H) (F : Int32 → jx_R), h4.1 y = h2.1 y → jx_gI h4 y 8 5 F = F (nI k) := fun h4 F e => jx_gI_e (e.trans j1) rfl F
      rw [a_237, ro_5 I, if_neg (show ¬ nI (ro_pm R) = 0 from nI_ne0 (by omega) (by omega)), b_237_13, x1, ro_6 I1, if_pos (by decide), ro_5 I1, hk, nI_pred, x2, ro_4 I2, e5, ro_0 I2, mz_225 k (by omega), show (0 : Int32) = nI 0 from rfl, show (225 : Int32) = nI 225 from rfl, mz_cpn j6' j2 (by omega) (by omega) (by decide) (by decide) (by decide), g5 _ _ (mz_set_n (by omega)), Nat.add_sub_cancel]
    · rw [hk1]
      refine ⟨⟨?_, ?_, j3⟩, ?_, ?_, ?_, ?_, ?_, ?_⟩
      · rw [mz_set_n (by omega)]; exact j1
      · rw [mz_set_e]
        refine congrArg (fun l => some (100, l)) (mz_ar_cong fun i hi => ?_)
        unfold mz_cq
        rw [if_pos ⟨by omega, by omega⟩, show i - 0 + 225 * k = 225 * k + i by omega]
      all_goals rw [mz_set_n (by omega)]; assumption
theorem m_239 (I : ro_I h y S th R) (Q : ro_S S M) : ∃ h', jx_A 239 [.ref y] h = some (.inl (some (.int (nI M.1))), h') ∧ ro_I h' y S 0 (ro_V R S) ∧ mz_eq y (y + 8) h h' := by
  obtain ⟨p, A, g, B, hF, ho⟩ := Q
  obtain ⟨h1, x1, I1, t1⟩ := ro_pth I 0
  have n := ro_nc I1
  obtain ⟨⟨j1, j2, j3⟩, j4, j5, j6, j7, j8, j9⟩ := id I1
  have k1 : (jx_set h1 (y + 3) (100, mz_ar 225 (fun q => .int (nI (mz_cq S R.2.1 0 0 225 q))))).1 y = some (8, .ref (y + 1) :: ro_fs y 0 R) := by rw [mz_set_n (by omega)]; exact j1
  obtain ⟨h3, x3, o3, t3⟩ : ∃ h3, (∀ F, jx_pt (jx_set h1 (y + 3) (100, mz_ar 225 (fun q => .int (nI (mz_cq S R.2.1 0 0 225 q))))) y 8 3 (.int 1) F = F h3) ∧ h3.1 y = some (8, .ref (y + 1) :: ro_fs y 0 (ro_V R S)) ∧ mz_eq y (y + 1) (jx_set h1 (y + 3) (100, mz_ar 225 (fun q => .int (nI (mz_cq S R.2.1 0 0 225 q))))) h3 :=
    ⟨_, fun F => jx_pt_e k1 n (by show 3 < 17; decide) F, mz_set_e, mz_eq_st (by omega) (by omega)⟩
  have at3 : ∀ q o, q ≠ y → q ≠ y + 3 → h1.1 q = some o → h3.1 q = some o := fun q o a b e => ((t3.1 q (by omega)).trans (mz_set_n b)).trans e
  have I3 : ro_I h3 y S 0 (ro_V R S) := by
    refine ⟨⟨o3, at3 _ _ (by omega) (by omega) j2, j3⟩, at3 _ _ (by omega) (by omega) j4, ?_, at3 _ _ (by omega) (by omega) j6, at3 _ _ (by omega) (by omega) j7, at3 _ _ (by omega) (by omega) j8, at3 _ _ (by omega) (by omega) j9⟩
    rw [t3.1 (y + 3) (by omega), mz_set_e]
    refine congrArg (fun l => some (100, l)) (mz_ar_cong fun i hi => ?_)
    unfold mz_cq
    rw [if_pos ⟨by omega, by omega⟩]; rfl
  have J3 : rq_J h3 y (ro_fs y 0 (ro_V R S)) S M.1 M.2.1 p A g := ⟨I3.1, B⟩
  have m148 := m_148 J3 false
  rw [show mz_su (fun k => (bif false then !fg_on (A (p k)) else true).toNat) M.1 = M.1 from mz_su_one M.1] at m148
  refine ⟨h3, ?_, I3, mz_eq_tr t1 (mz_eq_tr (mz_eq_st (by omega) (by omega)) (mz_eq_wd t3 (by omega) (by omega)))⟩
  rw [a_239, x1, ro_0 I1, ro_2 I1, show (0 : Int32) = nI 0 from rfl, show (225 : Int32) = nI 225 from rfl, mz_cpn j2 j5 (by omega) (by decide) (by decide) (by decide) (by decide), x3, ro_is I3, jx_cI_e (show jx_A 148 [.ref y, .int (nI 0)] h3 = _ from m148)]
theorem m_240 {MS : mm_T} (I : ro_I h y S th R) (QS : ro_sv R = true → ro_S R.2.1 MS) : (ro_sv R = false ∧ ∃ h', jx_A 240 [.ref y] h = some (.inl (some (.int 0)), h') ∧ ro_I h' y S 1 R ∧ mz_eq y (y + 8) h h') ∨
    (ro_sv R = true ∧ ∃ h', jx_A 240 [.ref y] h = some (.inl (some (.int (nI MS.1))), h') ∧ ro_I h' y R.2.1 0 (ro_P R R.2.2.1 0) ∧ mz_eq y (y + 8) h h') := by
  cases sv : ro_sv R with
  | false =>
    obtain ⟨h1, x1, I1, t1⟩ := ro_pth I 1
    refine Or.inl ⟨rfl, h1, ?_, I1, t1⟩
    have e3 : ∀ F, jx_gI h y 8 3 F = F (bI (ro_sv R)) := fun F => ro_3 I F
    rw [a_240, e3, sv, if_pos (show bI false = 0 from rfl), b_240_13, x1, ro_6 I1, if_neg (by decide)]
  | true =>
    obtain ⟨p, A, g, B, hF, ho⟩ := QS sv
    obtain ⟨h1, x1, I1, t1⟩ := ro_pth I 0
    have n := ro_nc I1
    obtain ⟨⟨j1, j2, j3⟩, j4, j5, j6, j7, j8, j9⟩ := id I1
    have I2 : ro_I (jx_set h1 (y + 1) (100, mz_ar 225 (fun q => .int (nI (mz_cq R.2.1 S 0 0 225 q))))) y R.2.1 0 R := by
      refine ⟨⟨?_, ?_, j3⟩, ?_, ?_, ?_, ?_, ?_, ?_⟩
      · rw [mz_set_n (by omega)]; exact j1
      · rw [mz_set_e]
        refine congrArg (fun l => some (100, l)) (mz_ar_cong fun i hi => ?_)
        unfold mz_cq
        rw [if_pos ⟨by omega, by omega⟩]; rfl
      all_goals rw [mz_set_n (by omega)]; assumption
    obtain ⟨h3, x3, I3, t3⟩ := ro_ppm I2 0
    have x3' : ∀ F, jx_pt (jx_set h1 (y + 1) (100, mz_ar 225 (fun q => .int (nI (mz_cq R.2.1 S 0 0 225 q))))) y 8 5 (.int 0) F = F h3 := x3
    have J3 : rq_J h3 y _ R.2.1 MS.1 MS.2.1 p A g := ⟨I3.1, B⟩
    have m148 := m_148 J3 false
    rw [show mz_su (fun k => (bif false then !fg_on (A (p k)) else true).toNat) MS.1 = MS.1 from mz_su_one MS.1] at m148
    refine Or.inr ⟨rfl, h3, ?_, I3, mz_eq_tr t1 (mz_eq_tr (mz_eq_st (by omega) (by omega)) t3)⟩
    have e3 : ∀ F, jx_gI h y 8 3 F = F (bI (ro_sv R)) := fun F => ro_3 I F
    have cp : ∀ F, jx_cp h1 (y + 3) (y + 1) 100 0 0 225 F = F (jx_set h1 (y + 1) (100, mz_ar 225 (fun q => .int (nI (mz_cq R.2.1 S 0 0 225 q))))) := fun F => mz_cpn (i := 0) (j := 0) (n := 225) j5 j2 (by omega) (by decide) (by decide) (by decide) (by decide) F
    rw [a_240, e3, sv, if_neg (show ¬ bI true = 0 by decide), b_240_13, x1, ro_6 I1, if_pos (by decide), ro_2 I1, ro_0 I1, cp, x3', ro_is I3, jx_cI_e (show jx_A 148 [.ref y, .int 0] h3 = _ from m148)]
end RD
end JX
