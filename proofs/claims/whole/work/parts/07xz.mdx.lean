/-! The other object reads its text. -/
section JX
def ro_k (R : ro_R) (po : Nat) (mf : Bool) (cm : Nat → Int32) (cn : Nat) : ro_R := (R.1, R.2.1, R.2.2.1, R.2.2.2.1, R.2.2.2.2.1, cm, R.2.2.2.2.2.2.1, R.2.2.2.2.2.2.2.1, R.2.2.2.2.2.2.2.2.1, R.2.2.2.2.2.2.2.2.2.1, nI po, mf, R.2.2.2.2.2.2.2.2.2.2.2.2.1, R.2.2.2.2.2.2.2.2.2.2.2.2.2.1, cn)
def ro_q11 (R : ro_R) (v : Int32) : ro_R := (R.1, R.2.1, R.2.2.1, R.2.2.2.1, R.2.2.2.2.1, R.2.2.2.2.2.1, R.2.2.2.2.2.2.1, R.2.2.2.2.2.2.2.1, R.2.2.2.2.2.2.2.2.1, R.2.2.2.2.2.2.2.2.2.1, v, R.2.2.2.2.2.2.2.2.2.2.2)
def ro_q12 (R : ro_R) (b : Bool) : ro_R := (R.1, R.2.1, R.2.2.1, R.2.2.2.1, R.2.2.2.2.1, R.2.2.2.2.2.1, R.2.2.2.2.2.2.1, R.2.2.2.2.2.2.2.1, R.2.2.2.2.2.2.2.2.1, R.2.2.2.2.2.2.2.2.2.1, R.2.2.2.2.2.2.2.2.2.2.1, b, R.2.2.2.2.2.2.2.2.2.2.2.2)
def ro_q13 (R : ro_R) (v : Int32) : ro_R := (R.1, R.2.1, R.2.2.1, R.2.2.2.1, R.2.2.2.2.1, R.2.2.2.2.2.1, R.2.2.2.2.2.2.1, R.2.2.2.2.2.2.2.1, R.2.2.2.2.2.2.2.2.1, R.2.2.2.2.2.2.2.2.2.1, R.2.2.2.2.2.2.2.2.2.2.1, R.2.2.2.2.2.2.2.2.2.2.2.1, v, R.2.2.2.2.2.2.2.2.2.2.2.2.2)
def ro_q14 (R : ro_R) (v : Int32) : ro_R := (R.1, R.2.1, R.2.2.1, R.2.2.2.1, R.2.2.2.2.1, R.2.2.2.2.2.1, R.2.2.2.2.2.2.1, R.2.2.2.2.2.2.2.1, R.2.2.2.2.2.2.2.2.1, R.2.2.2.2.2.2.2.2.2.1, R.2.2.2.2.2.2.2.2.2.2.1, R.2.2.2.2.2.2.2.2.2.2.2.1, R.2.2.2.2.2.2.2.2.2.2.2.2.1, v, R.2.2.2.2.2.2.2.2.2.2.2.2.2.2)
def ro_q16 (R : ro_R) (v : Nat) : ro_R := (R.1, R.2.1, R.2.2.1, R.2.2.2.1, R.2.2.2.2.1, R.2.2.2.2.2.1, R.2.2.2.2.2.2.1, R.2.2.2.2.2.2.2.1, R.2.2.2.2.2.2.2.2.1, R.2.2.2.2.2.2.2.2.2.1, R.2.2.2.2.2.2.2.2.2.2.1, R.2.2.2.2.2.2.2.2.2.2.2.1, R.2.2.2.2.2.2.2.2.2.2.2.2.1, R.2.2.2.2.2.2.2.2.2.2.2.2.2.1, v)
def ro_qc (R : ro_R) (c : Nat → Int32) : ro_R := (R.1, R.2.1, R.2.2.1, R.2.2.2.1, R.2.2.2.2.1, c, R.2.2.2.2.2.2)
section MO
variable {h : jx_H} {y : Nat} {S : Nat → Nat} {th : Int32} {R : ro_R}
theorem ro_p11 (J : ro_I h y S th R) (v : Int32) : ∃ h', (∀ F, jx_pt h y 8 11 (.int v) F = F h') ∧ ro_I h' y S th (ro_q11 R v) ∧ mz_eq y (y + 8) h h' :=
  ⟨_, fun F => jx_pt_e J.1.1 (ro_nc J) (by show 11 < 17; decide) F, ro_ob J (mz_eq_st (Nat.le_refl _) (Nat.lt_succ_self _)) mz_set_e rfl rfl rfl rfl rfl rfl, mz_eq_st (by omega) (by omega)⟩
theorem ro_p12 (J : ro_I h y S th R) (v : Bool) : ∃ h', (∀ F, jx_pt h y 8 12 (.int (bI v)) F = F h') ∧ ro_I h' y S th (ro_q12 R v) ∧ mz_eq y (y + 8) h h' :=
  ⟨_, fun F => jx_pt_e J.1.1 (ro_nc J) (by show 12 < 17; decide) F, ro_ob J (mz_eq_st (Nat.le_refl _) (Nat.lt_succ_self _)) mz_set_e rfl rfl rfl rfl rfl rfl, mz_eq_st (by omega) (by omega)⟩
theorem ro_p13 (J : ro_I h y S th R) (v : Int32) : ∃ h', (∀ F, jx_pt h y 8 13 (.int v) F = F h') ∧ ro_I h' y S th (ro_q13 R v) ∧ mz_eq y (y + 8) h h' :=
  ⟨_, fun F => jx_pt_e J.1.1 (ro_nc J) (by show 13 < 17; decide) F, ro_ob J (mz_eq_st (Nat.le_refl _) (Nat.lt_succ_self _)) mz_set_e rfl rfl rfl rfl rfl rfl, mz_eq_st (by omega) (by omega)⟩
theorem ro_p14 (J : ro_I h y S th R) (v : Int32) : ∃ h', (∀ F, jx_pt h y 8 14 (.int v) F = F h') ∧ ro_I h' y S th (ro_q14 R v) ∧ mz_eq y (y + 8) h h' :=
  ⟨_, fun F => jx_pt_e J.1.1 (ro_nc J) (by show 14 < 17; decide) F, ro_ob J (mz_eq_st (Nat.le_refl _) (Nat.lt_succ_self _)) mz_set_e rfl rfl rfl rfl rfl rfl, mz_eq_st (by omega) (by omega)⟩
theorem ro_p16 (J : ro_I h y S th R) (v : Nat) : ∃ h', (∀ F, jx_pt h y 8 16 (.int (nI v)) F = F h') ∧ ro_I h' y S th (ro_q16 R v) ∧ mz_eq y (y + 8) h h' :=
  ⟨_, fun F => jx_pt_e J.1.1 (ro_nc J) (by show 16 < 17; decide) F, ro_ob J (mz_eq_st (Nat.le_refl _) (Nat.lt_succ_self _)) mz_set_e rfl rfl rfl rfl rfl rfl, mz_eq_st (by omega) (by omega)⟩
theorem ro_pc7 (J : ro_I h y S th R) {k : Nat} (hk : k < 360) (v : Int32) : ∃ h', (∀ F, jx_st h (y + 7) 100 (nI k) (.int v) F = F h') ∧ ro_I h' y S th (ro_qc R (mz_up R.2.2.2.2.2.1 k v)) ∧ mz_eq y (y + 8) h h' := by
  obtain ⟨⟨j1, j2, j3⟩, j4, j5, j6, j7, j8, j9⟩ := J
  refine ⟨_, fun F => mz_st j9 (by omega) hk (by decide) F, ⟨⟨?_, ?_, j3⟩, ?_, ?_, ?_, ?_, ?_, ?_⟩, mz_eq_st (by omega) (by omega)⟩
  · rw [mz_set_n (by omega)]; exact j1
  · rw [mz_set_n (by omega)]; exact j2
  · rw [mz_set_n (by omega)]; exact j4
  · rw [mz_set_n (by omega)]; exact j5
  · rw [mz_set_n (by omega)]; exact j6
  · rw [mz_set_n (by omega)]; exact j7
  · rw [mz_set_n (by omega)]; exact j8
  · rw [mz_set_e]
    refine congrArg (fun l => some (100, l)) (mz_ar_cong fun i _ => ?_)
    show _ = Value.int (mz_up R.2.2.2.2.2.1 k v i)
    unfold mz_up
    split <;> rfl
end MO
/-- reading: the heap at first, now; position, malformed, commands -/
def rk_J (h0 h : jx_H) (y : Nat) (S : Nat → Nat) (th : Int32) (R : ro_R) (po : Nat) (mf : Bool) (cm : Nat → Int32) (cn : Nat) : Prop := ro_I h y S th (ro_k R po mf cm cn) ∧ mz_eq y (y + 8) h0 h ∧ po ≤ ro_il R
/-- a character as it is looked at -/
def pz_b (x : Nat) : Int32 := if x < 65536 then nI x else -1
theorem pz_b_eq {x k : Nat} (hk : k < 65536) : pz_b x = nI k ↔ x = k := by
  unfold pz_b
  by_cases c : x < 65536
  · rw [if_pos c]; exact nI_eq (by omega) (by omega)
  · rw [if_neg c]
    constructor
    · intro q; exact absurd q.symm (mz_nIne (by omega))
    · intro q; omega
theorem pz_b_lt {x : Nat} (c : x < 65536) : pz_b x = nI x := if_pos c
section RK
variable {xs : List Int32} {h0 h : jx_H} {y : Nat} {S : Nat → Nat} {th : Int32} {R : ro_R} {po cn : Nat} {mf : Bool} {cm : Nat → Int32}
theorem rk_I (J : rk_J h0 h y S th R po mf cm cn) : ro_I h y S th (ro_k R po mf cm cn) := J.1
theorem rk_11 (J : rk_J h0 h y S th R po mf cm cn) (F : Int32 → jx_R) : jx_gI h y 8 11 F = F (nI po) := ro_11 J.1 F
theorem rk_12 (J : rk_J h0 h y S th R po mf cm cn) (F : Int32 → jx_R) : jx_gI h y 8 12 F = F (bI mf) := ro_12 J.1 F
theorem rk_10 (J : rk_J h0 h y S th R po mf cm cn) (F : Int32 → jx_R) : jx_gI h y 8 10 F = F (nI (ro_il R)) := ro_10 J.1 F
theorem rk_16 (J : rk_J h0 h y S th R po mf cm cn) (F : Int32 → jx_R) : jx_gI h y 8 16 F = F (nI cn) := ro_16 J.1 F
theorem rk_is (J : rk_J h0 h y S th R po mf cm cn) (F : jx_R) : jx_is h y 8 F = F := ro_is J.1 F
theorem rk_9 (J : rk_J h0 h y S th R po mf cm cn) (F : Nat → jx_R) : jx_gA h y 8 9 F = F (y + 6) := ro_9 J.1 F
theorem rk_15 (J : rk_J h0 h y S th R po mf cm cn) (F : Nat → jx_R) : jx_gA h y 8 15 F = F (y + 7) := ro_15 J.1 F
theorem rk_K (K : mz_K xs h0) (J : rk_J h0 h y S th R po mf cm cn) : mz_K xs h := mz_K_eq K J.2.1 (ro_nc J.1)
theorem rk_p11 (J : rk_J h0 h y S th R po mf cm cn) {v : Nat} (hv : v ≤ ro_il R) : ∃ h', (∀ F, jx_pt h y 8 11 (.int (nI v)) F = F h') ∧ rk_J h0 h' y S th R v mf cm cn := by
  obtain ⟨h', x, I, t⟩ := ro_p11 J.1 (nI v)
  have e : ro_q11 (ro_k R po mf cm cn) (nI v) = ro_k R v mf cm cn := rfl
  rw [e] at I
  exact ⟨h', x, I, mz_eq_tr J.2.1 t, hv⟩
theorem rk_p12 (J : rk_J h0 h y S th R po mf cm cn) (b : Bool) : ∃ h', (∀ F, jx_pt h y 8 12 (.int (bI b)) F = F h') ∧ rk_J h0 h' y S th R po b cm cn := by
  obtain ⟨h', x, I, t⟩ := ro_p12 J.1 b
  have e : ro_q12 (ro_k R po mf cm cn) b = ro_k R po b cm cn := rfl
  rw [e] at I
  exact ⟨h', x, I, mz_eq_tr J.2.1 t, J.2.2⟩
theorem rk_p16 (J : rk_J h0 h y S th R po mf cm cn) (v : Nat) : ∃ h', (∀ F, jx_pt h y 8 16 (.int (nI v)) F = F h') ∧ rk_J h0 h' y S th R po mf cm v := by
  obtain ⟨h', x, I, t⟩ := ro_p16 J.1 v
  have e : ro_q16 (ro_k R po mf cm cn) v = ro_k R po mf cm v := rfl
  rw [e] at I
  exact ⟨h', x, I, mz_eq_tr J.2.1 t, J.2.2⟩
theorem rk_pc (J : rk_J h0 h y S th R po mf cm cn) {k : Nat} (hk : k < 360) (v : Int32) : ∃ h', (∀ F, jx_st h (y + 7) 100 (nI k) (.int v) F = F h') ∧ rk_J h0 h' y S th R po mf (mz_up cm k v) cn := by
  obtain ⟨h', x, I, t⟩ := ro_pc7 J.1 hk v
  have e : ro_qc (ro_k R po mf cm cn) (mz_up (ro_k R po mf cm cn).2.2.2.2.2.1 k v) = ro_k R po mf (mz_up cm k v) cn := rfl
  rw [e] at I
  exact ⟨h', x, I, mz_eq_tr J.2.1 t, J.2.2⟩
theorem m_227 (J : rk_J h0 h y S th R po mf cm cn) (hL : ro_il R ≤ 60) (ht : ∀ i, i < ro_il R → R.2.2.2.2.1 i < 65536) (j : Nat) (hj : j ≤ 1) : jx_A 227 [.ref y, .int (nI j)] h = some (.inl (some (.int (pz_b (pz_c R.2.2.2.2.1 (ro_il R) (po + j))))), h) := by
  have l := J.2.2
  rw [a_227, rk_11 J, rk_10 J, nI_add]
  by_cases c : ro_il R ≤ po + j
  · rw [if_pos (nI_le c (by omega)), pz_c_ge c]; rfl
  · rw [if_neg (nI_ge (by omega) (by omega)), rk_9 J, rk_11 J, nI_add, ro_rd6 J.1 (by omega), pz_c_lt (by omega), pz_b_lt (ht _ (by omega))]
    rfl
theorem m_228 (K : mz_K xs h0) (J : rk_J h0 h y S th R po false cm cn) (hL : ro_il R ≤ 60) (ht : ∀ i, i < ro_il R → R.2.2.2.2.1 i < 65536) {w : Nat} {l : List Nat} (W : ∀ h, mz_K xs h → st_I h w l) :
    ∃ h', jx_A 228 [.ref y, .ref w] h = some (.inl none, h') ∧ rk_J h0 h' y S th R (po + pz_lt (pz_c R.2.2.2.2.1 (ro_il R)) l po) (Nat.blt (pz_lt (pz_c R.2.2.2.2.1 (ro_il R)) l po) l.length) cm cn := by
  have ll : l.length < 10 := (W h0 K).choose_spec.2.2.2
  have l128 : ∀ x, x ∈ l → x < 128 := (W h0 K).choose_spec.2.2.1
  rw [a_228]
  refine mz_inv (γ := jx_H) (fun i h => jx_E 228 2 [.ref y, .ref w, .int (nI i)] [] h) (fun i h => rk_J h0 h y S th R (po + i) false cm cn ∧ ∀ j, j < i → l[j]? = some (pz_c R.2.2.2.2.1 (ro_il R) (po + j))) l.length (fun X => ∃ h', X = some (.inl none, h') ∧ rk_J h0 h' y S th R (po + pz_lt (pz_c R.2.2.2.2.1 (ro_il R)) l po) (Nat.blt (pz_lt (pz_c R.2.2.2.2.1 (ro_il R)) l po) l.length) cm cn) ?_ ?_ 0 h (Nat.zero_le _) ⟨J, fun j hj => absurd hj (Nat.not_lt_zero _)⟩
  · rintro h1 ⟨J1, hm⟩
    have S1 := W h1 (rk_K K J1)
    refine ⟨h1, ?_, ?_⟩
    · rw [b_228_2, st_is S1, jx_cI_e (m_248 S1), if_pos (Int32.le_refl _)]
    · rw [pz_lt_of _ l po l.length hm (Or.inl (Nat.le_refl _)) (Nat.le_refl _), Nat_blt_f (Nat.le_refl _)]
      exact J1
  · rintro i h1 hi ⟨J1, hm⟩
    have S1 := W h1 (rk_K K J1)
    obtain ⟨a, ha⟩ : ∃ a, l[i]? = some a := ⟨_, List.getElem?_eq_getElem hi⟩
    have a128 := l128 a (List.mem_of_getElem? ha)
    have E : jx_E 228 2 [.ref y, .ref w, .int (nI i)] [] h1 = if pz_b (pz_c R.2.2.2.2.1 (ro_il R) (po + i)) = nI a then (jx_pt h1 y 8 12 (.int (bI false)) (fun h9 => jx_gI h9 y 8 11 (fun x11 => jx_gI h9 y 8 12 (fun x13 => if x13 = 0 then (jx_pt h9 y 8 11 (.int (x11 + 1)) (fun h14 => jx_E 228 2 [.ref y, .ref w, .int (nI (i + 1))] [] h14)) else (jx_pt h9 y 8 11 (.int (x11 + 0)) (fun h15 => jx_E 228 2 [.ref y, .ref w, .int (nI (i + 1))] [] h15)))))) else (jx_pt h1 y 8 12 (.int (bI true)) (fun h16 => jx_gI h16 y 8 11 (fun x18 => jx_gI h16 y 8 12 (fun x20 => if x20 = 0 then (jx_pt h16 y 8 11 (.int (x18 + 1)) (fun h21 => jx_E 228 2 [.ref y, .ref w, .int (nI (i + 1))] [] h21)) else (jx_pt h16 y 8 11 (.int (x18 + 0)) (fun h22 => jx_E 228 2 [.ref y, .ref w, .int (nI (i + 1))] [] h22)))))) := by
      have e27 : jx_A 227 [.ref y, .int 0] h1 = _ := m_227 J1 hL ht 0 (by decide)
      rw [Nat.add_zero] at e27
      rw [b_228_2, st_is S1, jx_cI_e (m_248 S1), if_neg (nI_ge hi (by omega)), rk_12 J1, if_pos (show bI false = 0 from rfl), rk_is J1, jx_cI_e e27, st_is S1, jx_cI_e (m_249 S1 ha), nI_1]
      rfl
    by_cases c : pz_c R.2.2.2.2.1 (ro_il R) (po + i) = a
    · right
      have lt : po + i < ro_il R := by
        by_cases z : po + i < ro_il R
        · exact z
        · rw [pz_c_ge (by omega)] at c; omega
      obtain ⟨h2, x2, J2⟩ := rk_p12 J1 false
      obtain ⟨h3, x3, J3⟩ := rk_p11 J2 (v := po + (i + 1)) (by omega)
      refine ⟨h3, ⟨J3, fun j hj => ?_⟩, ?_⟩
      · by_cases z : j = i
        · subst z; rw [ha, c]
        · exact hm j (by omega)
      · show jx_E 228 2 _ _ _ = jx_E 228 2 _ _ _
        rw [E, if_pos ((pz_b_eq (by omega)).mpr c), x2, rk_11 J2, rk_12 J2, if_pos (show bI false = 0 from rfl), nI_1]
        exact x3 _
    · left
      obtain ⟨h2, x2, J2⟩ := rk_p12 J1 true
      obtain ⟨h3, x3, J3⟩ := rk_p11 J2 (v := po + i) J2.2.2
      have S3 := W h3 (rk_K K J3)
      refine ⟨h3, ?_, ?_⟩
      · show jx_E 228 2 _ _ _ = _
        rw [E, if_neg (fun q => c ((pz_b_eq (by omega)).mp q)), x2, rk_11 J2, rk_12 J2, if_neg (show ¬ bI true = 0 by decide), Int32.add_zero, x3, b_228_2, st_is S3, jx_cI_e (m_248 S3)]
        by_cases z : l.length ≤ i + 1
        · rw [if_pos (nI_le z (by omega))]
        · rw [if_neg (nI_ge (by omega) (by omega)), rk_12 J3, if_neg (show ¬ bI true = 0 by decide)]
      · rw [pz_lt_of _ l po i hm (Or.inr (by rw [ha]; exact fun q => c (Option.some.inj q).symm)) (Nat.le_of_lt hi), Nat_blt_t hi]
        exact J3
theorem m_228m (K : mz_K xs h0) (J : rk_J h0 h y S th R po true cm cn) {w : Nat} {l : List Nat} (W : ∀ h, mz_K xs h → st_I h w l) : jx_A 228 [.ref y, .ref w] h = some (.inl none, h) := by
  have S1 := W h (rk_K K J)
  rw [a_228, b_228_2, st_is S1, jx_cI_e (m_248 S1), rk_12 J]
  split
  · rfl
  · rw [if_neg (show ¬ bI true = 0 by decide)]
/-- a digit's value -/
def pz_hx (x : Nat) : Option Nat := match pz_dg x with | some v => some v | none => if 97 ≤ x ∧ x ≤ 102 then some (x - 87) else none
theorem m_229b (x : Nat) (h : jx_H) : jx_A 229 [.int (pz_b x)] h = some (.inl (some (.int (zO (pz_hx x)))), h) := by
  by_cases c : x < 128
  · have key : ∀ x, x < 128 → (if bI (decide (48 ≤ nI x) && decide (nI x ≤ 57)) = 0 then (if bI (decide (97 ≤ nI x) && decide (nI x ≤ 102)) = 0 then (-1 : Int32) else (nI x - 97) + 10) else nI x - 48) = zO (pz_hx x) := by decide +kernel
    rw [pz_b_lt (by omega), a_229, jx_cI_e (m_135 _ _ _ h), ← key x c]
    split
    · rw [jx_cI_e (m_135 _ _ _ h)]
      split <;> rfl
    · rfl
  · have n1 : pz_hx x = none := by
      unfold pz_hx pz_dg
      rw [if_neg (by omega)]
      dsimp only
      rw [if_neg (by omega)]
    have key : bI (decide (48 ≤ pz_b x) && decide (pz_b x ≤ 57)) = 0 ∧ bI (decide (97 ≤ pz_b x) && decide (pz_b x ≤ 102)) = 0 := by
      unfold pz_b
      by_cases d : x < 65536
      · rw [if_pos d, decide_eq_false (show ¬ nI x ≤ 57 from nI_ge (b := x) (a := 57) (by omega) (by omega)), decide_eq_false (show ¬ nI x ≤ 102 from nI_ge (b := x) (a := 102) (by omega) (by omega)), Bool.and_false, Bool.and_false]
        exact ⟨rfl, rfl⟩
      · rw [if_neg d]; exact ⟨by decide, by decide⟩
    rw [a_229, jx_cI_e (m_135 _ _ _ h), if_pos key.1, jx_cI_e (m_135 _ _ _ h), if_pos key.2, n1]
    rfl
theorem pz_hx_16 {x v : Nat} (h : pz_hx x = some v) : v < 16 := by
  unfold pz_hx at h
  cases e : pz_dg x with
  | some w =>
    rw [e] at h
    have := pz_dg_9 e
    cases h; omega
  | none =>
    rw [e] at h
    dsimp only at h
    split at h
    · cases h; omega
    · cases h
/-- a digit below 10 or 16 -/
def pz_dl (b : Bool) (x : Nat) : Option Nat := bif b then pz_vs 104 x else pz_vs 100 x
def zL (b : Bool) : Int32 := bif b then 16 else 10
theorem pz_dl_hx (b : Bool) (x : Nat) : pz_dl b x = match pz_hx x with | some v => if v < (bif b then 16 else 10) then some v else none | none => none := by
  unfold pz_dl
  have v4 : pz_vs 104 x = if 97 ≤ x ∧ x ≤ 102 then some (x - 87) else pz_dg x := rfl
  cases e : pz_dg x with
  | some w =>
    have w9 := pz_dg_9 e
    have hx : pz_hx x = some w := by unfold pz_hx; rw [e]
    have nx : ¬ (97 ≤ x ∧ x ≤ 102) := by
      unfold pz_dg at e
      split at e
      · omega
      · cases e
    rw [hx, v4, pz_vs_100, if_neg nx, e]
    dsimp only
    cases b with
    | true => rw [if_pos (show w < (bif true then 16 else 10) from (by show w < 16; omega))]; rfl
    | false => rw [if_pos (show w < (bif false then 16 else 10) from w9)]; rfl
  | none =>
    have hx : pz_hx x = if 97 ≤ x ∧ x ≤ 102 then some (x - 87) else none := by unfold pz_hx; rw [e]
    rw [hx, v4, pz_vs_100, e]
    by_cases c : 97 ≤ x ∧ x ≤ 102
    · rw [if_pos c]
      dsimp only
      cases b with
      | true => rw [if_pos (show x - 87 < (bif true then 16 else 10) from (by show x - 87 < 16; omega))]; rfl
      | false => rw [if_neg (show ¬ x - 87 < (bif false then 16 else 10) from (by show ¬ x - 87 < 10; omega))]; rfl
    · rw [if_neg c]
      cases b <;> rfl
theorem m_230 (J : rk_J h0 h y S th R po false cm cn) (hL : ro_il R ≤ 60) (ht : ∀ i, i < ro_il R → R.2.2.2.2.1 i < 65536) (b : Bool) :
    match pz_dl b (pz_c R.2.2.2.2.1 (ro_il R) po) with
    | some v => ∃ h', jx_A 230 [.ref y, .int (zL b)] h = some (.inl (some (.int (nI v))), h') ∧ rk_J h0 h' y S th R (po + 1) false cm cn ∧ v < 16 ∧ po < ro_il R
    | none => ∃ h', jx_A 230 [.ref y, .int (zL b)] h = some (.inl (some (.int 0)), h') ∧ rk_J h0 h' y S th R po true cm cn := by
  have e27 : jx_A 227 [.ref y, .int 0] h = _ := m_227 J hL ht 0 (by decide)
  rw [Nat.add_zero] at e27
  have E : jx_A 230 [.ref y, .int (zL b)] h = if zO (pz_hx (pz_c R.2.2.2.2.1 (ro_il R) po)) < 0 then (jx_E 230 31 [.ref y, .int (zL b), .int (zO (pz_hx (pz_c R.2.2.2.2.1 (ro_il R) po)))] [.int 1, .ref y] h) else (if zO (pz_hx (pz_c R.2.2.2.2.1 (ro_il R) po)) < zL b then (jx_E 230 31 [.ref y, .int (zL b), .int (zO (pz_hx (pz_c R.2.2.2.2.1 (ro_il R) po)))] [.int 0, .ref y] h) else (jx_E 230 31 [.ref y, .int (zL b), .int (zO (pz_hx (pz_c R.2.2.2.2.1 (ro_il R) po)))] [.int 1, .ref y] h)) := by
    rw [a_230, rk_is J, jx_cI_e e27, jx_cI_e (m_229b _ h), rk_12 J, if_pos (show bI false = 0 from rfl)]
  have no : ∀ z, ∃ h', jx_E 230 31 [.ref y, .int (zL b), .int z] [.int 1, .ref y] h = some (.inl (some (.int 0)), h') ∧ rk_J h0 h' y S th R po true cm cn := by
    intro z
    obtain ⟨h2, x2, J2⟩ := rk_p12 J true
    obtain ⟨h3, x3, J3⟩ := rk_p11 J2 (v := po) J2.2.2
    refine ⟨h3, ?_, J3⟩
    rw [b_230_31, if_pos (Or.inr rfl), show (1 : Int32) = bI true from rfl, x2, rk_11 J2, rk_12 J2, if_neg (show ¬ bI true = 0 by decide), Int32.add_zero, x3, rk_12 J3, if_neg (show ¬ bI true = 0 by decide)]
  rw [pz_dl_hx]
  cases e : pz_hx (pz_c R.2.2.2.2.1 (ro_il R) po) with
  | none =>
    rw [e, if_pos (show zO none < 0 by decide)] at E
    rw [E]
    exact no _
  | some v =>
    have v16 := pz_hx_16 e
    rw [e, if_neg (show ¬ zO (some v) < 0 from nI_pos (by omega))] at E
    dsimp only
    have key : zO (some v) < zL b ↔ v < (bif b then 16 else 10) := by
      cases b with
      | true => exact nI_ltI (b := 16) (by omega) (by decide)
      | false => exact nI_ltI (b := 10) (by omega) (by decide)
    by_cases c : v < (bif b then 16 else 10)
    · rw [if_pos (key.mpr c)] at E
      rw [if_pos c]
      have lt : po < ro_il R := by
        by_cases z : po < ro_il R
        · exact z
        · rw [pz_c_ge (by omega)] at e; cases e
      obtain ⟨h2, x2, J2⟩ := rk_p12 J false
      obtain ⟨h3, x3, J3⟩ := rk_p11 J2 (v := po + 1) lt
      refine ⟨h3, ?_, J3, v16, lt⟩
      rw [E, b_230_31, if_pos (Or.inl rfl), show (Value.int 0) = Value.int (bI false) from rfl, x2, rk_11 J2, rk_12 J2, if_pos (show bI false = 0 from rfl), nI_1, x3, rk_12 J3, if_pos (show bI false = 0 from rfl)]
      rfl
    · rw [if_neg (fun q => c (key.mp q))] at E
      rw [if_neg c, E]
      exact no _
theorem m_230m (J : rk_J h0 h y S th R po true cm cn) (hL : ro_il R ≤ 60) (ht : ∀ i, i < ro_il R → R.2.2.2.2.1 i < 65536) (b : Int32) : ∃ h', jx_A 230 [.ref y, .int b] h = some (.inl (some (.int 0)), h') ∧ rk_J h0 h' y S th R po true cm cn := by
  have e27 : jx_A 227 [.ref y, .int 0] h = _ := m_227 J hL ht 0 (by decide)
  obtain ⟨h2, x2, J2⟩ := rk_p12 J true
  obtain ⟨h3, x3, J3⟩ := rk_p11 J2 (v := po) J2.2.2
  refine ⟨h3, ?_, J3⟩
  rw [a_230, rk_is J, jx_cI_e e27, jx_cI_e (m_229b _ h), rk_12 J, if_neg (show ¬ bI true = 0 by decide), b_230_31, if_pos (Or.inr rfl), show (1 : Int32) = bI true from rfl, x2, rk_11 J2, rk_12 J2, if_neg (show ¬ bI true = 0 by decide), Int32.add_zero, x3, rk_12 J3, if_neg (show ¬ bI true = 0 by decide)]
theorem m_135d (x : Nat) (h : jx_H) : jx_A 135 [.int (pz_b x), .int 48, .int 57] h = some (.inl (some (.int (bI (pz_dg x).isSome))), h) := by
  rw [m_135]
  refine congrArg (fun z => (some (.inl (some (.int (bI z))), h) : jx_R)) ?_
  unfold pz_dg pz_b
  by_cases d : x < 65536
  · rw [if_pos d]
    by_cases c : 48 ≤ x ∧ x ≤ 57
    · rw [if_pos c, decide_eq_true (show (48 : Int32) ≤ nI x from nI_le (a := 48) c.1 (by omega)), decide_eq_true (show nI x ≤ 57 from nI_le (b := 57) c.2 (by decide))]; rfl
    · rw [if_neg c]
      by_cases c2 : 48 ≤ x
      · rw [decide_eq_false (show ¬ nI x ≤ 57 from nI_ge (a := 57) (by omega) (by omega)), Bool.and_false]; rfl
      · rw [decide_eq_false (show ¬ (48 : Int32) ≤ nI x from nI_ge (b := 48) (by omega) (by decide))]; rfl
  · rw [if_neg d, if_neg (by omega)]; decide
theorem m_231 (J : rk_J h0 h y S th R po false cm cn) (hL : ro_il R ≤ 60) (ht : ∀ i, i < ro_il R → R.2.2.2.2.1 i < 65536) :
    match pz_nm (pz_c R.2.2.2.2.1 (ro_il R)) po with
    | .inr q => ∃ h', jx_A 231 [.ref y] h = some (.inl (some (.int (nI q.1))), h') ∧ rk_J h0 h' y S th R q.2 false cm cn ∧ q.1 < 128
    | .inl e => ∃ h', jx_A 231 [.ref y] h = some (.inl (some (.int 0)), h') ∧ rk_J h0 h' y S th R e true cm cn := by
  have m1 := m_230 J hL ht false
  rw [show pz_dl false (pz_c R.2.2.2.2.1 (ro_il R) po) = pz_dg (pz_c R.2.2.2.2.1 (ro_il R) po) from rfl] at m1
  unfold pz_nm
  cases e : pz_dg (pz_c R.2.2.2.2.1 (ro_il R) po) with
  | none =>
    rw [e] at m1
    obtain ⟨h1, x1, J1⟩ := m1
    refine ⟨h1, ?_, J1⟩
    rw [a_231, rk_is J, jx_cI_e (show jx_A 230 [.ref y, .int 10] h = _ from x1), rk_12 J1, if_neg (show ¬ bI true = 0 by decide)]
  | some v =>
    rw [e] at m1
    obtain ⟨h1, x1, J1, v1, lt⟩ := m1
    have v9 := pz_dg_9 e
    have e27 : jx_A 227 [.ref y, .int 0] h1 = _ := m_227 J1 hL ht 0 (by decide)
    rw [Nat.add_zero] at e27
    have m2 := m_230 J1 hL ht false
    rw [show pz_dl false (pz_c R.2.2.2.2.1 (ro_il R) (po + 1)) = pz_dg (pz_c R.2.2.2.2.1 (ro_il R) (po + 1)) from rfl] at m2
    have E : jx_A 231 [.ref y] h = if bI (pz_dg (pz_c R.2.2.2.2.1 (ro_il R) (po + 1))).isSome = 0 then (some (.inl (some (.int (nI v))), h1)) else (jx_cI jx_A 230 [.ref y, .int 10] h1 (fun y10 h9 => some (.inl (some (.int ((10 * nI v) + y10))), h9))) := by
      rw [a_231, rk_is J, jx_cI_e (show jx_A 230 [.ref y, .int 10] h = _ from x1), rk_12 J1, if_pos (show bI false = 0 from rfl), rk_is J1, jx_cI_e e27, jx_cI_e (m_135d _ h1), rk_is J1]
    dsimp only
    cases e2 : pz_dg (pz_c R.2.2.2.2.1 (ro_il R) (po + 1)) with
    | none =>
      rw [e2] at E
      refine ⟨h1, ?_, J1, by omega⟩
      rw [E, if_pos (show bI (none : Option Nat).isSome = 0 from rfl)]
    | some w =>
      rw [e2] at E m2
      obtain ⟨h2, x2, J2, w1, lt2⟩ := m2
      have w9 := pz_dg_9 e2
      refine ⟨h2, ?_, J2, by dsimp only; omega⟩
      rw [E, if_neg mz_sm, jx_cI_e (show jx_A 230 [.ref y, .int 10] h1 = _ from x2), pz_10 v v9 w w9]
theorem m_231m (J : rk_J h0 h y S th R po true cm cn) (hL : ro_il R ≤ 60) (ht : ∀ i, i < ro_il R → R.2.2.2.2.1 i < 65536) : ∃ h', jx_A 231 [.ref y] h = some (.inl (some (.int 0)), h') ∧ rk_J h0 h' y S th R po true cm cn := by
  obtain ⟨h1, x1, J1⟩ := m_230m J hL ht 10
  exact ⟨h1, by rw [a_231, rk_is J, jx_cI_e x1, rk_12 J1, if_neg (show ¬ bI true = 0 by decide)], J1⟩
end RK
end JX
