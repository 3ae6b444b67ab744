/-! The other object: how a change begins and ends. -/
section JX
/-- all but the board and what is thrown: before, saved, past, output, input, commands; saved?, so many past, output's and input's lengths, position, malformed, what is kept, so many commands -/
abbrev ro_R : Type := (Nat → Nat) × (Nat → Nat) × (Nat → Nat) × (Nat → Nat) × (Nat → Nat) × (Nat → Int32) × Bool × Nat × Nat × Nat × Int32 × Bool × Int32 × Int32 × Nat
def ro_fs (y : Nat) (th : Int32) (R : ro_R) : List Value := [.ref (y + 2), .ref (y + 3), .int (bI R.2.2.2.2.2.2.1), .ref (y + 4), .int (nI R.2.2.2.2.2.2.2.1), .int th, .ref (y + 5), .int (nI R.2.2.2.2.2.2.2.2.1), .ref (y + 6), .int (nI R.2.2.2.2.2.2.2.2.2.1), .int R.2.2.2.2.2.2.2.2.2.2.1, .int (bI R.2.2.2.2.2.2.2.2.2.2.2.1), .int R.2.2.2.2.2.2.2.2.2.2.2.2.1, .int R.2.2.2.2.2.2.2.2.2.2.2.2.2.1, .ref (y + 7), .int (nI R.2.2.2.2.2.2.2.2.2.2.2.2.2.2)]
def ro_I (h : jx_H) (y : Nat) (S : Nat → Nat) (th : Int32) (R : ro_R) : Prop :=
  rq_I h y (ro_fs y th R) S ∧ h.1 (y + 2) = some (100, mz_ar 225 (fun k => .int (nI (R.1 k)))) ∧ h.1 (y + 3) = some (100, mz_ar 225 (fun k => .int (nI (R.2.1 k)))) ∧ h.1 (y + 4) = some (100, mz_ar 1800 (fun k => .int (nI (R.2.2.1 k)))) ∧ h.1 (y + 5) = some (101, mz_ar 20 (fun k => .int (nI (R.2.2.2.1 k)))) ∧ h.1 (y + 6) = some (101, mz_ar 60 (fun k => .int (nI (R.2.2.2.2.1 k)))) ∧ h.1 (y + 7) = some (100, mz_ar 360 (fun k => .int (R.2.2.2.2.2.1 k)))
def ro_B (R : ro_R) (B : Nat → Nat) : ro_R := (B, R.2)
def ro_P (R : ro_R) (P : Nat → Nat) (pm : Nat) : ro_R := (R.1, R.2.1, P, R.2.2.2.1, R.2.2.2.2.1, R.2.2.2.2.2.1, R.2.2.2.2.2.2.1, pm, R.2.2.2.2.2.2.2.2)
abbrev ro_pm (R : ro_R) : Nat := R.2.2.2.2.2.2.2.1
/-- a part copied -/
def mz_cq (u v : Nat → Nat) (i j n : Nat) : Nat → Nat := fun q => if j ≤ q ∧ q < j + n then u (q - j + i) else v q
theorem mz_cpn {h : jx_H} {a b t N M i j n : Nat} {u v : Nat → Nat} (h1 : h.1 a = some (t, mz_ar N (fun q => .int (nI (u q))))) (h2 : h.1 b = some (t, mz_ar M (fun q => .int (nI (v q))))) (hb : jx_nc ≤ b) (hi : i + n ≤ N) (hj : j + n ≤ M) (hN : N < 2 ^ 31) (hM : M < 2 ^ 31) (F : jx_H → jx_R) :
    jx_cp h a b t (nI i) (nI j) (nI n) F = F (jx_set h b (t, mz_ar M (fun q => .int (nI (mz_cq u v i j n q))))) := by
  rw [mz_cp (u := fun q => nI (u q)) (v := fun q => nI (v q)) h1 h2 hb hi hj hN hM]
  congr 3
  refine mz_ar_cong fun q _ => ?_
  unfold mz_cq
  split <;> rfl
section MO
variable {h : jx_H} {y : Nat} {S : Nat → Nat} {th : Int32} {R : ro_R}
theorem ro_nc (J : ro_I h y S th R) : jx_nc ≤ y := J.1.2.2
theorem ro_is (J : ro_I h y S th R) (F : jx_R) : jx_is h y 8 F = F := jx_is_e J.1.1 F
theorem ro_0 (J : ro_I h y S th R) (F : Nat → jx_R) : jx_gA h y 8 0 F = F (y + 1) := jx_gA_e J.1.1 rfl F
theorem ro_1 (J : ro_I h y S th R) (F : Nat → jx_R) : jx_gA h y 8 1 F = F (y + 2) := jx_gA_e J.1.1 rfl F
theorem ro_2 (J : ro_I h y S th R) (F : Nat → jx_R) : jx_gA h y 8 2 F = F (y + 3) := jx_gA_e J.1.1 rfl F
theorem ro_3 (J : ro_I h y S th R) (F : Int32 → jx_R) : jx_gI h y 8 3 F = F (bI R.2.2.2.2.2.2.1) := jx_gI_e J.1.1 rfl F
theorem ro_4 (J : ro_I h y S th R) (F : Nat → jx_R) : jx_gA h y 8 4 F = F (y + 4) := jx_gA_e J.1.1 rfl F
theorem ro_5 (J : ro_I h y S th R) (F : Int32 → jx_R) : jx_gI h y 8 5 F = F (nI (ro_pm R)) := jx_gI_e J.1.1 rfl F
theorem ro_6 (J : ro_I h y S th R) (F : Int32 → jx_R) : jx_gI h y 8 6 F = F th := jx_gI_e J.1.1 rfl F
theorem ro_ag {h' : jx_H} (J : ro_I h y S th R) (e : mz_ag y (y + 8) h h') : ro_I h' y S th R := by
  obtain ⟨⟨j1, j2, j3⟩, j4, j5, j6, j7, j8, j9⟩ := J
  exact ⟨⟨mz_ag_at e (by omega) (by omega) j1, mz_ag_at e (by omega) (by omega) j2, j3⟩, mz_ag_at e (by omega) (by omega) j4, mz_ag_at e (by omega) (by omega) j5, mz_ag_at e (by omega) (by omega) j6, mz_ag_at e (by omega) (by omega) j7, mz_ag_at e (by omega) (by omega) j8, mz_ag_at e (by omega) (by omega) j9⟩
/-- the object's own cell has changed -/
theorem ro_ob {h' : jx_H} {th' : Int32} {R' : ro_R} (J : ro_I h y S th R) (e : mz_eq y (y + 1) h h') (o : h'.1 y = some (8, .ref (y + 1) :: ro_fs y th' R')) (k1 : R'.1 = R.1) (k2 : R'.2.1 = R.2.1) (k3 : R'.2.2.1 = R.2.2.1) (k4 : R'.2.2.2.1 = R.2.2.2.1) (k5 : R'.2.2.2.2.1 = R.2.2.2.2.1) (k6 : R'.2.2.2.2.2.1 = R.2.2.2.2.2.1) : ro_I h' y S th' R' := by
  obtain ⟨⟨j1, j2, j3⟩, j4, j5, j6, j7, j8, j9⟩ := J
  exact ⟨⟨o, mz_eq_at e (by omega) j2, j3⟩, by rw [k1]; exact mz_eq_at e (by omega) j4, by rw [k2]; exact mz_eq_at e (by omega) j5, by rw [k3]; exact mz_eq_at e (by omega) j6, by rw [k4]; exact mz_eq_at e (by omega) j7, by rw [k5]; exact mz_eq_at e (by omega) j8, by rw [k6]; exact mz_eq_at e (by omega) j9⟩
/-- what is thrown is written -/
theorem ro_pth (J : ro_I h y S th R) (v : Int32) : ∃ h', (∀ F, jx_pt h y 8 6 (.int v) F = F h') ∧ ro_I h' y S v R ∧ mz_eq y (y + 8) h h' :=
  ⟨_, fun F => jx_pt_e J.1.1 (ro_nc J) (by show 6 < 17; decide) F, ro_ob J (mz_eq_st (Nat.le_refl _) (Nat.lt_succ_self _)) mz_set_e rfl rfl rfl rfl rfl rfl, mz_eq_st (by omega) (by omega)⟩
theorem ro_ppm (J : ro_I h y S th R) (v : Nat) : ∃ h', (∀ F, jx_pt h y 8 5 (.int (nI v)) F = F h') ∧ ro_I h' y S th (ro_P R R.2.2.1 v) ∧ mz_eq y (y + 8) h h' :=
  ⟨_, fun F => jx_pt_e J.1.1 (ro_nc J) (by show 5 < 17; decide) F, ro_ob J (mz_eq_st (Nat.le_refl _) (Nat.lt_succ_self _)) mz_set_e rfl rfl rfl rfl rfl rfl, mz_eq_st (by omega) (by omega)⟩
theorem m_138 (J : ro_I h y S th R) (v : Int32) : ∃ h', jx_A 138 [.ref y, .int v] h = some (.inl (some (.int 0)), h') ∧ ro_I h' y S v R ∧ mz_eq y (y + 8) h h' := by
  obtain ⟨h1, x1, J1, t1⟩ := ro_pth J v
  exact ⟨h1, by rw [a_138, x1], J1, t1⟩
theorem m_139 (J : ro_I h y S th R) (b : Bool) : ∃ h', jx_A 139 [.ref y, .int (bI b)] h = some (.inl (some (.int (bI b))), h') ∧ ro_I h' y S (bif b then 0 else 1) R ∧ mz_eq y (y + 8) h h' := by
  obtain ⟨h1, x1, J1, t1⟩ := ro_pth J (bif b then 0 else 1)
  refine ⟨h1, ?_, J1, t1⟩
  cases b with
  | false => rw [a_139, if_pos (show bI false = 0 from rfl), show (1 : Int32) = bif false then 0 else 1 from rfl, x1, if_pos (by decide)]
  | true => rw [a_139, if_neg (by decide), show (Value.int 0) = Value.int (bif true then 0 else 1) from rfl, x1, if_pos (by decide)]
/-- a number of the board is written -/
theorem ro_ps (J : ro_I h y S th R) {k : Nat} (hk : k < 225) (v : Nat) : ∃ h', (∀ F, jx_st h (y + 1) 100 (nI k) (.int (nI v)) F = F h') ∧ ro_I h' y (mz_up S k v) th R ∧ mz_eq y (y + 8) h h' := by
  obtain ⟨⟨j1, j2, j3⟩, j4, j5, j6, j7, j8, j9⟩ := J
  refine ⟨_, fun F => mz_st j2 (by omega) hk (by decide) F, ⟨⟨?_, ?_, j3⟩, ?_, ?_, ?_, ?_, ?_, ?_⟩, mz_eq_st (by omega) (by omega)⟩
  · rw [mz_set_n (by omega)]; exact j1
  · rw [mz_set_e]
    refine congrArg (fun l => some (100, l)) (mz_ar_cong fun i _ => ?_)
    unfold mz_up
    split <;> rfl
  all_goals rw [mz_set_n (by omega)]; assumption
theorem m_141 (J : ro_I h y S th R) {j w : Nat} (hj : j < 20) (hw : w < 8) (v : Nat) : ∃ h', jx_A 141 [.ref y, .int (nI j), .int (nI w), .int (nI v)] h = some (.inl none, h') ∧ ro_I h' y (mz_up S (1 + 8 * j + w) v) th R ∧ mz_eq y (y + 8) h h' := by
  obtain ⟨h1, x1, J1, t1⟩ := ro_ps J (k := 1 + 8 * j + w) (by omega) v
  exact ⟨h1, by rw [a_141, ro_0 J, mz_18 j hj w hw, x1], J1, t1⟩
/-- the board is kept before a change -/
theorem m_136 (J : ro_I h y S th R) : ∃ h', jx_A 136 [.ref y] h = some (.inl none, h') ∧ ro_I h' y S 0 (ro_B R S) ∧ mz_eq y (y + 8) h h' := by
  obtain ⟨h1, x1, J1, t1⟩ := ro_pth J 0
  obtain ⟨⟨j1, j2, j3⟩, j4, j5, j6, j7, j8, j9⟩ := id J1
  refine ⟨jx_set h1 (y + 2) (100, mz_ar 225 (fun q => .int (nI (mz_cq S R.1 0 0 225 q)))), ?_, ⟨⟨?_, ?_, j3⟩, ?_, ?_, ?_, ?_, ?_, ?_⟩, mz_eq_tr t1 (mz_eq_st (by omega) (by omega))⟩
  · rw [a_136, x1, ro_0 J1, ro_1 J1, show (0 : Int32) = nI 0 from rfl, show (225 : Int32) = nI 225 from rfl, mz_cpn j2 j4 (by omega) (by decide) (by decide) (by decide) (by decide)]
  · rw [mz_set_n (by omega)]; exact j1
  · rw [mz_set_n (by omega)]; exact j2
  · rw [mz_set_e]
    refine congrArg (fun l => some (100, l)) (mz_ar_cong fun i hi => ?_)
    unfold mz_cq
    rw [if_pos ⟨by omega, by omega⟩]; rfl
  all_goals rw [mz_set_n (by omega)]; assumption
/-- the past with one more board behind it, the oldest gone where there were eight -/
def ro_ps8 (R : ro_R) : (Nat → Nat) × Nat :=
  if ro_pm R = 8 then (mz_cq R.1 (mz_cq R.2.2.1 R.2.2.1 225 0 1575) 0 1575 225, 8) else (mz_cq R.1 R.2.2.1 0 (225 * ro_pm R) 225, ro_pm R + 1)
theorem mz_225 : ∀ k, k < 8 → (225 : Int32) * nI k = nI (225 * k) := by decide +kernel
theorem ro_pP {P : Nat → Nat} (J : ro_I h y S th R) : ro_I (jx_set h (y + 4) (100, mz_ar 1800 (fun q => .int (nI (P q))))) y S th (ro_P R P (ro_pm R)) := by
  obtain ⟨⟨j1, j2, j3⟩, j4, j5, j6, j7, j8, j9⟩ := J
  refine ⟨⟨?_, ?_, j3⟩, ?_, ?_, ?_, ?_, ?_, ?_⟩
  · rw [mz_set_n (by omega)]; exact j1
  · rw [mz_set_n (by omega)]; exact j2
  · rw [mz_set_n (by omega)]; exact j4
  · rw [mz_set_n (by omega)]; exact j5
  · exact mz_set_e
  all_goals rw [mz_set_n (by omega)]; assumption
theorem ro_E62 (J : ro_I h y S th R) (hp : ro_pm R < 8) (r : Int32) : ∃ h', jx_E 137 62 [.ref y, .int r] [] h = some (.inl (some (.int r)), h') ∧ ro_I h' y S th (ro_P R (mz_cq R.1 R.2.2.1 0 (225 * ro_pm R) 225) (ro_pm R + 1)) ∧ mz_eq y (y + 8) h h' := by
  have n := ro_nc J
  have J1 := ro_pP (P := mz_cq R.1 R.2.2.1 0 (225 * ro_pm R) 225) J
  obtain ⟨h2, x2, J2, t2⟩ := ro_ppm J1 (ro_pm R + 1)
  refine ⟨h2, ?_, J2, mz_eq_tr (mz_eq_st (by omega) (by omega)) t2⟩
  rw [b_137_62, ro_1 J, ro_4 J, ro_5 J, mz_225 _ hp, show (0 : Int32) = nI 0 from rfl, show (225 : Int32) = nI 225 from rfl, mz_cpn J.2.1 J.2.2.2.1 (by omega) (by decide) (by omega) (by decide) (by decide), ro_5 J1]
  show jx_pt _ y 8 5 (.int (nI (ro_pm R) + 1)) _ = _
  rw [nI_1, x2]
/-- a change that succeeded ends -/
theorem m_137 (J : ro_I h y S 0 R) (hp : ro_pm R ≤ 8) (r : Int32) : ∃ h', jx_A 137 [.ref y, .int r] h = some (.inl (some (.int r)), h') ∧ ro_I h' y S 0 (ro_P R (ro_ps8 R).1 (ro_ps8 R).2) ∧ mz_eq y (y + 8) h h' := by
  have n := ro_nc J
  unfold ro_ps8
  by_cases c : ro_pm R = 8
  · rw [if_pos c]
    have J1 := ro_pP (P := mz_cq R.2.2.1 R.2.2.1 225 0 1575) J
    obtain ⟨h2, x2, J2, t2⟩ := ro_ppm J1 7
    obtain ⟨h3, x3, J3, t3⟩ := ro_E62 J2 (show 7 < 8 by decide) r
    refine ⟨h3, ?_, J3, mz_eq_tr (mz_eq_st (by omega) (by omega)) (mz_eq_tr t2 t3)⟩
    rw [a_137, ro_6 J, if_pos (by decide), ro_5 J, if_pos (by rw [c]; decide), ro_4 J, ro_4 J, show (0 : Int32) = nI 0 from rfl, show (225 : Int32) = nI 225 from rfl, show (1575 : Int32) = nI 1575 from rfl, mz_cpn J.2.2.2.1 J.2.2.2.1 (by omega) (by decide) (by decide) (by decide) (by decide), ro_5 J1]
    show jx_pt _ y 8 5 (.int (nI (ro_pm R) - 1)) _ = _
    rw [c, show nI 8 - 1 = nI 7 by decide, x2]
    exact x3
  · rw [if_neg c]
    obtain ⟨h3, x3, J3, t3⟩ := ro_E62 J (by omega) r
    refine ⟨h3, ?_, J3, t3⟩
    rw [a_137, ro_6 J, if_pos (by decide), ro_5 J, if_neg (show ¬ nI (ro_pm R) = 8 from fun q => c ((nI_eq (b := 8) (by omega) (by decide)).mp q)), x3]
/-- a change that was refused ends: the board is as it was -/
theorem m_137x (J : ro_I h y S th R) (ht : ¬ th ≤ 0) (r : Int32) : ∃ h', jx_A 137 [.ref y, .int r] h = some (.inl (some (.int 0)), h') ∧ ro_I h' y R.1 th R ∧ mz_eq y (y + 8) h h' := by
  have n := ro_nc J
  obtain ⟨⟨j1, j2, j3⟩, j4, j5, j6, j7, j8, j9⟩ := id J
  refine ⟨jx_set h (y + 1) (100, mz_ar 225 (fun q => .int (nI (mz_cq R.1 S 0 0 225 q)))), ?_, ⟨⟨?_, ?_, j3⟩, ?_, ?_, ?_, ?_, ?_, ?_⟩, mz_eq_st (by omega) (by omega)⟩
  · rw [a_137, ro_6 J, if_neg ht, ro_1 J, ro_0 J, show (0 : Int32) = nI 0 from rfl, show (225 : Int32) = nI 225 from rfl, mz_cpn j4 j2 (by omega) (by decide) (by decide) (by decide) (by decide)]
  · rw [mz_set_n (by omega)]; exact j1
  · rw [mz_set_e]
    refine congrArg (fun l => some (100, l)) (mz_ar_cong fun i hi => ?_)
    unfold mz_cq
    rw [if_pos ⟨by omega, by omega⟩]; rfl
  all_goals rw [mz_set_n (by omega)]; assumption
end MO
end JX
