/-! Fractions. -/
section JX
def fq_f (j a : Nat) : UInt32 := FP.fdiv (FP.i2f (nI j)) (FP.i2f (nI a))
def fq_d (j n : Nat) : UInt64 := FP.ddiv (FP.i2d (2 * nI j)) (FP.i2d (nI n))
def bf_L : Nat → UInt32 → Int32 → Nat → Option Int32
  | 0, _, _, _ => none
  | f + 1, v, e, s => if 0 ≤ (Op.cmpValue (FP.fcmp v FP.fconst1) .g) then (if isNaN32 (FP.fsub v FP.fconst1) = false ∧ isNaN32 (FP.fmul (FP.fsub v FP.fconst1) 1258291200) = false then some ((e <<< (23 &&& 31)) ||| (FP.f2i (FP.fmul (FP.fsub v FP.fconst1) 1258291200))) else none)
      else (if isNaN32 (FP.fmul v FP.fconst2) = false then bf_L f (FP.fmul v FP.fconst2) (e + (-1)) (s + 1) else none)
theorem jx_n32_e {x : UInt32} {f : jx_R} (h : isNaN32 x = false) : jx_n32 x f = f := by unfold jx_n32; rw [h]; rfl
theorem jx_n64_e {x : UInt64} {f : jx_R} (h : isNaN64 x = false) : jx_n64 x f = f := by unfold jx_n64; rw [h]; rfl
theorem bf_run {h : jx_H} {v0 : UInt32} {r : Int32} : ∀ (f : Nat) (v : UInt32) (e : Int32) (s : Nat), s + f ≤ 126 → bf_L f v e s = some r → jx_E 132 15 [.float v0, .float v, .int e, .int (nI s)] [] h = some (.inl (some (.int r)), h)
  | 0, _, _, _, _, q => by cases q
  | f + 1, v, e, s, hs, q => by
    unfold bf_L at q
    rw [b_132_15, if_neg (show ¬ (126 : Int32) ≤ nI s from nI_ge (b := 126) (by omega) (by decide))]
    by_cases c : 0 ≤ (Op.cmpValue (FP.fcmp v FP.fconst1) .g)
    · rw [if_pos c] at q ⊢
      by_cases d : isNaN32 (FP.fsub v FP.fconst1) = false ∧ isNaN32 (FP.fmul (FP.fsub v FP.fconst1) 1258291200) = false
      · rw [if_pos d] at q
        rw [jx_n32_e d.1, jx_n32_e d.2]
        cases q; rfl
      · rw [if_neg d] at q; cases q
    · rw [if_neg c] at q ⊢
      by_cases d : isNaN32 (FP.fmul v FP.fconst2) = false
      · rw [if_pos d] at q
        rw [jx_n32_e d, nI_1]
        exact bf_run f _ _ _ (by omega) q
      · rw [if_neg d] at q; cases q
def fq_ck (j a : Nat) : Bool :=
  !isNaN32 (fq_f j a) && !isNaN64 (FP.f2d (fq_f j a)) && decide (Op.cmpValue (FP.dcmp (FP.f2d (fq_f j a)) (FP.f2d (fq_f j a))) .l = 0) && decide (Op.cmpValue (FP.fcmp (fq_f j a) (fq_f j a)) .l = 0) &&
  (bif j == 0 then !decide (0 < (Op.cmpValue (FP.fcmp (fq_f j a) FP.fconst0) .g)) && decide ((fq_f j a).toInt32 = 0) else decide (0 < (Op.cmpValue (FP.fcmp (fq_f j a) FP.fconst0) .g)) && decide (bf_L 10 (fq_f j a) 127 0 = some (fq_f j a).toInt32))
set_option maxRecDepth 100000 in
theorem fq_all : ∀ a, a < 41 → ∀ j, j < 41 → (Nat.blt 0 a && Nat.ble j a) = true → fq_ck j a = true := by decide +kernel
def fd_ck (j n : Nat) : Bool := !isNaN64 (fq_d j n) && decide (Op.cmpValue (FP.dcmp (fq_d j n) (fq_d j n)) .l = 0)
set_option maxRecDepth 100000 in
theorem fd_all : ∀ n, n < 21 → ∀ j, j < 41 → Nat.blt 0 n = true → fd_ck j n = true := by decide +kernel
theorem fq_at {j a : Nat} (h0 : 0 < a) (h1 : j ≤ a) (h2 : a ≤ 40) : isNaN32 (fq_f j a) = false ∧ isNaN64 (FP.f2d (fq_f j a)) = false ∧ Op.cmpValue (FP.dcmp (FP.f2d (fq_f j a)) (FP.f2d (fq_f j a))) .l = 0 ∧ Op.cmpValue (FP.fcmp (fq_f j a) (fq_f j a)) .l = 0 ∧ ∀ h, jx_A 132 [.float (fq_f j a)] h = some (.inl (some (.int (fq_f j a).toInt32)), h) := by
  have := fq_all a (by omega) j (by omega) (by rw [show Nat.blt 0 a = true from Nat.ble_eq_true_of_le h0, Nat.ble_eq_true_of_le h1]; rfl)
  unfold fq_ck at this
  simp only [Bool.and_eq_true, Bool.not_eq_true', decide_eq_true_eq] at this
  obtain ⟨⟨⟨⟨q1, q2⟩, q3⟩, q4⟩, q5⟩ := this
  refine ⟨q1, q2, q3, q4, fun h => ?_⟩
  rw [a_132]
  by_cases z : j = 0
  · subst z
    simp only [beq_self_eq_true, cond_true, Bool.and_eq_true, Bool.not_eq_true', decide_eq_true_eq, decide_eq_false_iff_not] at q5
    rw [if_neg q5.1, q5.2]
  · rw [beq_eq_false_iff_ne.mpr z] at q5
    simp only [cond_false, Bool.and_eq_true, decide_eq_true_eq] at q5
    rw [if_pos q5.1]
    exact bf_run 10 _ _ 0 (by decide) q5.2
theorem fd_at {j n : Nat} (h0 : 0 < n) (h1 : j ≤ 40) (h2 : n ≤ 20) : isNaN64 (fq_d j n) = false ∧ Op.cmpValue (FP.dcmp (fq_d j n) (fq_d j n)) .l = 0 := by
  have := fd_all n (by omega) j (by omega) (Nat.ble_eq_true_of_le h0)
  unfold fd_ck at this
  simp only [Bool.and_eq_true, Bool.not_eq_true', decide_eq_true_eq] at this
  exact this
theorem mm_es_2 (o : Nat → Option fg_T) (f : fg_T) : mm_es o 1 f + mm_es o 2 f ≤ 2 := by
  unfold mm_es
  split
  · omega
  · rename_i c _
    have : ∀ z : Nat, (z == 1).toNat + (z == 2).toNat ≤ 1 := fun z => by
      by_cases a : z = 1
      · subst a; decide
      · rw [beq_eq_false_iff_ne.mpr a]
        have := Bool.toNat_le (z == 2)
        show 0 + _ ≤ 1
        omega
    have h1 := this (mm_ct o c 1)
    have h2 := this (mm_ct o c 2)
    omega
theorem mz_su_plus (f g : Nat → Nat) : ∀ n, mz_su f n + mz_su g n = mz_su (fun i => f i + g i) n
  | 0 => rfl
  | n + 1 => by
    have := mz_su_plus f g n
    show mz_su f n + f n + (mz_su g n + g n) = mz_su (fun i => f i + g i) n + (f n + g n)
    omega
theorem mm_pr_2 (M : mm_T) (hn : M.1 ≤ 20) : mm_pr M 1 + mm_pr M 2 ≤ 40 := by
  unfold mm_pr
  rw [mz_su_plus]
  have := mz_su_le (f := fun k => mm_es M.2.2.2 1 (M.2.2.1 k) + mm_es M.2.2.2 2 (M.2.2.1 k)) (b := 2) (n := M.1) (fun k _ => mm_es_2 _ _)
  omega
def mm_on (M : mm_T) : Nat := mz_su (fun k => (fg_on (M.2.2.1 k)).toNat) M.1
section CL
variable {xs : List Int32} {h : jx_H} {C : cl_T}
theorem c_99 (K : mz_K xs h) (I : cl_I h C) : jx_A 99 [.ref 200] h = if mm_pr C.1 1 + mm_pr C.1 2 = 0 then some (.inr eAR, jx_thr h) else some (.inl (some (.float (fq_f (mm_pr C.1 1) (mm_pr C.1 1 + mm_pr C.1 2)))), h) := by
  obtain ⟨nx, J⟩ := I
  have l := mm_pr_2 C.1 (bd_R_ok J.2.1).1
  rw [a_99, cl_0 J, cl_bis J.2.1, jx_cI_e (show jx_A 18 [.ref 201, .int 1] h = _ from cl_pr K J true), cl_0 J, cl_bis J.2.1, jx_cI_e (show jx_A 18 [.ref 201, .int 0] h = _ from cl_pr K J false), nI_add]
  show (if nI (mm_pr C.1 1 + mm_pr C.1 2) = 0 then _ else jx_n32 (fq_f (mm_pr C.1 1) (mm_pr C.1 1 + mm_pr C.1 2)) _) = _
  by_cases z : mm_pr C.1 1 + mm_pr C.1 2 = 0
  · rw [if_pos (by rw [z]; rfl), if_pos z]
  · rw [if_neg (nI_ne0 (by omega) (by omega)), if_neg z, jx_n32_e (fq_at (by omega) (by omega) l).1]
    rfl
theorem c_100 (K : mz_K xs h) (I : cl_I h C) : jx_A 100 [.ref 200] h = if mm_pr C.1 1 + mm_pr C.1 2 = 0 then some (.inr eAR, jx_thr h) else some (.inl (some (.int (fq_f (mm_pr C.1 1) (mm_pr C.1 1 + mm_pr C.1 2)).toInt32)), h) := by
  have e := c_99 K I
  obtain ⟨nx, J⟩ := I
  have l := mm_pr_2 C.1 (bd_R_ok J.2.1).1
  by_cases z : mm_pr C.1 1 + mm_pr C.1 2 = 0
  · rw [if_pos z] at e ⊢
    rw [a_100, cl_is J, jx_cF_x e]
  · rw [if_neg z] at e ⊢
    rw [a_100, cl_is J, jx_cF_e e, jx_cI_e ((fq_at (by omega) (by omega) l).2.2.2.2 h)]
theorem c_101 (K : mz_K xs h) (I : cl_I h C) : jx_A 101 [.ref 200] h = if mm_on C.1 = 0 then some (.inr eAR, jx_thr h) else some (.inl (some (.double (fq_d (mm_pr C.1 1) (mm_on C.1)))), h) := by
  obtain ⟨nx, J⟩ := I
  have l0 := (bd_R_ok J.2.1).1
  have l := mm_pr_2 C.1 l0
  have ln : mm_on C.1 ≤ C.1.1 * 1 := mz_su_le (fun k _ => Bool.toNat_le _)
  have e4 : jx_A 4 [.ref 201] h = some (.inl (some (.int (nI (mm_on C.1)))), h) := by
    obtain ⟨p, A, g, H, W, hF, ho⟩ := J.2.1
    rw [m_4 H]
    refine congrArg (fun z => (some (.inl (some (.int (nI z))), h) : jx_R)) ?_
    exact mz_su_cong (fun k hk => by rw [hF k hk])
  rw [a_101, cl_0 J, cl_bis J.2.1, jx_cI_e e4]
  by_cases z : mm_on C.1 = 0
  · rw [if_pos (by rw [z]; rfl), if_pos z]
  · rw [if_neg (nI_ne0 (by omega) (by omega)), if_neg z, cl_0 J, cl_bis J.2.1, jx_cI_e (show jx_A 18 [.ref 201, .int 1] h = _ from cl_pr K J true)]
    show jx_n64 (fq_d (mm_pr C.1 1) (mm_on C.1)) _ = _
    rw [jx_n64_e (fd_at (by omega) (by omega) (by omega)).1]
    rfl
end CL
end JX
