/-! The other object carries commands out. -/
section JX
theorem getD_128 {l : List Nat} (H : ∀ x, x ∈ l → x < 128) (t : Nat) : l.getD t 0 < 128 := by
  rw [List.getD_eq_getElem?_getD]
  cases e : l[t]? with
  | none => decide
  | some x => exact H x (List.mem_of_getElem? e)
section RD
variable {h : jx_H} {y : Nat} {S : Nat → Nat} {R : ro_R} {M : mm_T}
theorem ro_rd7 {th : Int32} (J : ro_I h y S th R) {k : Nat} (hk : k < 360) (F : Int32 → jx_R) : jx_lI h (y + 7) 100 (nI k) F = F (R.2.2.2.2.2.1 k) := mz_lI J.2.2.2.2.2.2 hk (by decide) rfl F
/-- a command is carried out, or not -/
def rd_D (h : jx_H) (y : Nat) (S : Nat → Nat) (R : ro_R) (M : mm_T) (q : Nat × List Nat) (X : jx_R) : Prop :=
  (∃ M' h' S', ex_ok M q M' ∧ X = some (.inl none, h') ∧ ro_I h' y S' 0 R ∧ ro_S S' M' ∧ mz_eq y (y + 8) h h') ∨
  (∃ t h', ex_no M q ∧ ¬ t ≤ (0 : Int32) ∧ X = some (.inl none, h') ∧ ro_I h' y S t R ∧ mz_eq y (y + 8) h h')
theorem rd_CD {m : Nat} {as : List Value} {ok : Int32 → mm_T → Prop} {no : Int32 → Prop} {cd : Int32 → Int32} {q : Nat × List Nat} {X : jx_R} (H : rd_C h y S R (jx_A m as h) ok no cd) (hok : ∀ r M', ok r M' → ex_ok M q M') (hno : ∀ e, no e → ex_no M q) (hcd : ∀ e, ¬ cd e ≤ 0)
    (hX : X = jx_cI jx_A m as h (fun _ h1 => some (.inl none, h1))) : rd_D h y S R M q X := by
  rcases H with ⟨r, M', h', S', a1, a2, a3, a4, a5⟩ | ⟨e, h', a1, a2, a3, a4⟩
  · exact Or.inl ⟨M', h', S', hok r M' a1, by rw [hX, jx_cI_e a2], a3, a4, a5⟩
  · exact Or.inr ⟨cd e, h', hno e a1, hcd e, by rw [hX, jx_cI_e a2], a3, a4⟩
theorem m_233 (I : ro_I h y S 0 R) (Q : ro_S S M) (O : mm_ok M) (hx : M.2.1 + 1 < 2 ^ 30) {i : Nat} (hi : i < 12) {q : Nat × List Nat} (row : cm_r R.2.2.2.2.2.1 (6 * i) q) (q7 : q.1 < 7) (q128 : ∀ x, x ∈ q.2 → x < 128) : rd_D h y S R M q (jx_A 233 [.ref y, .int (nI i)] h) := by
  have i1 : nI (6 * i) + 1 = nI (6 * i + 1) := nI_1 _
  have i2 : nI (6 * i) + 2 = nI (6 * i + 2) := nIp2 _
  have i3 : nI (6 * i) + 3 = nI (6 * i + 3) := nIp3 _
  have i4 : nI (6 * i) + 4 = nI (6 * i + 4) := nI_add _ 4
  have i5 : nI (6 * i) + 5 = nI (6 * i + 5) := nI_add _ 5
  obtain ⟨qn, l⟩ := q
  have d := getD_128 q128
  match qn, q7, row with
  | 0, _, row =>
    obtain ⟨r0, r1, r2, r3, r4, r5⟩ := (show R.2.2.2.2.2.1 (6 * i) = 110 ∧ R.2.2.2.2.2.1 (6 * i + 1) = pz_v (0, l) 0 ∧ R.2.2.2.2.2.1 (6 * i + 2) = pz_v (0, l) 1 ∧ R.2.2.2.2.2.1 (6 * i + 3) = pz_v (0, l) 2 ∧ R.2.2.2.2.2.1 (6 * i + 4) = pz_v (0, l) 3 ∧ R.2.2.2.2.2.1 (6 * i + 5) = pz_v (0, l) 4 from row)
    have c16 : ((pz_v (0, l) 0).toUInt32 % 65536).toInt32 = pz_v (0, l) 0 := mz_c16 (by have := d 0; exact Nat.lt_trans this (by decide))
    refine rd_CD (m_160 I Q hx (pz_v (0, l) 0) (pz_v (0, l) 1) (pz_v (0, l) 2) (pz_v (0, l) 3) (pz_v (0, l) 4)) (fun r M' w => ⟨r, w⟩) (fun e w => ⟨e, w⟩) (fun e => cd_pos2 e (-3)) ?_
    rw [a_233, ro_15 I, mz_6 i (by omega), i1, i2, i3, ro_rd7 I (k := 6 * i + 1) (by omega), ro_15 I, ro_rd7 I (k := 6 * i + 2) (by omega), ro_15 I, ro_rd7 I (k := 6 * i + 3) (by omega), ro_15 I, ro_rd7 I (k := 6 * i) (by omega), r0, if_neg (show ¬ (110 : Int32) = 100 by decide), if_neg (show ¬ (110 : Int32) = 101 by decide), if_neg (show ¬ (110 : Int32) = 102 by decide), if_neg (show ¬ (110 : Int32) = 103 by decide), if_neg (show ¬ (110 : Int32) = 104 by decide), if_neg (show ¬ (110 : Int32) = 105 by decide), if_neg (show ¬ (110 : Int32) = 106 by decide), if_neg (show ¬ (110 : Int32) = 107 by decide), if_neg (show ¬ (110 : Int32) = 108 by decide), if_neg (show ¬ (110 : Int32) = 109 by decide), if_pos (show (110 : Int32) = 110 from rfl), b_233_128, ro_15 I, i4, i5, ro_rd7 I (k := 6 * i + 4) (by omega), ro_15 I, ro_rd7 I (k := 6 * i + 5) (by omega), ro_is I, r1, r2, r3, r4, r5, c16]
  | 1, _, row =>
    obtain ⟨r0, r1, r2, r3⟩ := (show R.2.2.2.2.2.1 (6 * i) = 112 ∧ R.2.2.2.2.2.1 (6 * i + 1) = pz_v (1, l) 0 ∧ R.2.2.2.2.2.1 (6 * i + 2) = pz_v (1, l) 2 ∧ R.2.2.2.2.2.1 (6 * i + 3) = pz_v (1, l) 3 from row)
    refine rd_CD (m_175 I Q O (pz_v (1, l) 0) (pz_v (1, l) 2) (pz_v (1, l) 3)) (fun r M' w => ⟨r, w⟩) (fun e w => ⟨e, w⟩) (fun e => cd_pos3 e (-1) (-2)) ?_
    rw [a_233, ro_15 I, mz_6 i (by omega), i1, i2, i3, ro_rd7 I (k := 6 * i + 1) (by omega), ro_15 I, ro_rd7 I (k := 6 * i + 2) (by omega), ro_15 I, ro_rd7 I (k := 6 * i + 3) (by omega), ro_15 I, ro_rd7 I (k := 6 * i) (by omega), r0, if_neg (show ¬ (112 : Int32) = 100 by decide), if_neg (show ¬ (112 : Int32) = 101 by decide), if_neg (show ¬ (112 : Int32) = 102 by decide), if_neg (show ¬ (112 : Int32) = 103 by decide), if_neg (show ¬ (112 : Int32) = 104 by decide), if_neg (show ¬ (112 : Int32) = 105 by decide), if_neg (show ¬ (112 : Int32) = 106 by decide), if_neg (show ¬ (112 : Int32) = 107 by decide), if_neg (show ¬ (112 : Int32) = 108 by decide), if_neg (show ¬ (112 : Int32) = 109 by decide), if_neg (show ¬ (112 : Int32) = 110 by decide), if_neg (show ¬ (112 : Int32) = 111 by decide), if_pos (show (112 : Int32) = 112 from rfl), b_233_159, ro_is I, r1, r2, r3]
  | 2, _, row =>
    obtain ⟨r0, r1⟩ := (show R.2.2.2.2.2.1 (6 * i) = 116 ∧ R.2.2.2.2.2.1 (6 * i + 1) = pz_v (2, l) 0 from row)
    refine rd_CD (m_177 I Q O (pz_v (2, l) 0)) (fun r M' w => ⟨r, w⟩) (fun e w => ⟨e, w⟩) (fun e => cd_pos2 e (-1)) ?_
    rw [a_233, ro_15 I, mz_6 i (by omega), i1, i2, i3, ro_rd7 I (k := 6 * i + 1) (by omega), ro_15 I, ro_rd7 I (k := 6 * i + 2) (by omega), ro_15 I, ro_rd7 I (k := 6 * i + 3) (by omega), ro_15 I, ro_rd7 I (k := 6 * i) (by omega), r0, if_neg (show ¬ (116 : Int32) = 100 by decide), if_neg (show ¬ (116 : Int32) = 101 by decide), if_neg (show ¬ (116 : Int32) = 102 by decide), if_neg (show ¬ (116 : Int32) = 103 by decide), if_neg (show ¬ (116 : Int32) = 104 by decide), if_neg (show ¬ (116 : Int32) = 105 by decide), if_neg (show ¬ (116 : Int32) = 106 by decide), if_neg (show ¬ (116 : Int32) = 107 by decide), if_neg (show ¬ (116 : Int32) = 108 by decide), if_neg (show ¬ (116 : Int32) = 109 by decide), if_neg (show ¬ (116 : Int32) = 110 by decide), if_neg (show ¬ (116 : Int32) = 111 by decide), if_neg (show ¬ (116 : Int32) = 112 by decide), if_neg (show ¬ (116 : Int32) = 113 by decide), if_neg (show ¬ (116 : Int32) = 114 by decide), if_neg (show ¬ (116 : Int32) = 115 by decide), if_pos (show (116 : Int32) = 116 from rfl), b_233_197, ro_is I, r1]
  | 3, _, row =>
    obtain ⟨r0, r1, r2⟩ := (show R.2.2.2.2.2.1 (6 * i) = 117 ∧ R.2.2.2.2.2.1 (6 * i + 1) = pz_v (3, l) 0 ∧ R.2.2.2.2.2.1 (6 * i + 2) = pz_v (3, l) 2 from row)
    refine rd_CD (m_179 I Q O (pz_v (3, l) 0) (pz_v (3, l) 2)) (fun r M' w => ⟨r, w⟩) (fun e w => ⟨e, w⟩) (fun e => cd_pos2 e (-1)) ?_
    rw [a_233, ro_15 I, mz_6 i (by omega), i1, i2, i3, ro_rd7 I (k := 6 * i + 1) (by omega), ro_15 I, ro_rd7 I (k := 6 * i + 2) (by omega), ro_15 I, ro_rd7 I (k := 6 * i + 3) (by omega), ro_15 I, ro_rd7 I (k := 6 * i) (by omega), r0, if_neg (show ¬ (117 : Int32) = 100 by decide), if_neg (show ¬ (117 : Int32) = 101 by decide), if_neg (show ¬ (117 : Int32) = 102 by decide), if_neg (show ¬ (117 : Int32) = 103 by decide), if_neg (show ¬ (117 : Int32) = 104 by decide), if_neg (show ¬ (117 : Int32) = 105 by decide), if_neg (show ¬ (117 : Int32) = 106 by decide), if_neg (show ¬ (117 : Int32) = 107 by decide), if_neg (show ¬ (117 : Int32) = 108 by decide), if_neg (show ¬ (117 : Int32) = 109 by decide), if_neg (show ¬ (117 : Int32) = 110 by decide), if_neg (show ¬ (117 : Int32) = 111 by decide), if_neg (show ¬ (117 : Int32) = 112 by decide), if_neg (show ¬ (117 : Int32) = 113 by decide), if_neg (show ¬ (117 : Int32) = 114 by decide), if_neg (show ¬ (117 : Int32) = 115 by decide), if_neg (show ¬ (117 : Int32) = 116 by decide), if_pos (show (117 : Int32) = 117 from rfl), b_233_173, ro_is I, r1, r2]
  | 4, _, row =>
    obtain ⟨r0, r1, r2⟩ := (show R.2.2.2.2.2.1 (6 * i) = 115 ∧ R.2.2.2.2.2.1 (6 * i + 1) = pz_v (4, l) 0 ∧ R.2.2.2.2.2.1 (6 * i + 2) = pz_v (4, l) 2 from row)
    refine rd_CD (m_181 I Q O (pz_v (4, l) 0) (pz_v (4, l) 2)) (fun r M' w => ⟨r, w⟩) (fun e w => ⟨e, w⟩) (fun e => cd_pos3 e (-1) (-3)) ?_
    rw [a_233, ro_15 I, mz_6 i (by omega), i1, i2, i3, ro_rd7 I (k := 6 * i + 1) (by omega), ro_15 I, ro_rd7 I (k := 6 * i + 2) (by omega), ro_15 I, ro_rd7 I (k := 6 * i + 3) (by omega), ro_15 I, ro_rd7 I (k := 6 * i) (by omega), r0, if_neg (show ¬ (115 : Int32) = 100 by decide), if_neg (show ¬ (115 : Int32) = 101 by decide), if_neg (show ¬ (115 : Int32) = 102 by decide), if_neg (show ¬ (115 : Int32) = 103 by decide), if_neg (show ¬ (115 : Int32) = 104 by decide), if_neg (show ¬ (115 : Int32) = 105 by decide), if_neg (show ¬ (115 : Int32) = 106 by decide), if_neg (show ¬ (115 : Int32) = 107 by decide), if_neg (show ¬ (115 : Int32) = 108 by decide), if_neg (show ¬ (115 : Int32) = 109 by decide), if_neg (show ¬ (115 : Int32) = 110 by decide), if_neg (show ¬ (115 : Int32) = 111 by decide), if_neg (show ¬ (115 : Int32) = 112 by decide), if_neg (show ¬ (115 : Int32) = 113 by decide), if_neg (show ¬ (115 : Int32) = 114 by decide), if_pos (show (115 : Int32) = 115 from rfl), b_233_185, ro_is I, r1, r2]
  | 5, _, row =>
    have r0 : R.2.2.2.2.2.1 (6 * i) = 102 := row
    obtain ⟨r, M', h', S', a1, a2, a3, a4, a5⟩ := m_192 I Q O
    refine Or.inl ⟨M', h', S', ⟨r, a1⟩, ?_, a3, a4, a5⟩
    rw [a_233, ro_15 I, mz_6 i (by omega), i1, i2, i3, ro_rd7 I (k := 6 * i + 1) (by omega), ro_15 I, ro_rd7 I (k := 6 * i + 2) (by omega), ro_15 I, ro_rd7 I (k := 6 * i + 3) (by omega), ro_15 I, ro_rd7 I (k := 6 * i) (by omega), r0, if_neg (show ¬ (102 : Int32) = 100 by decide), if_neg (show ¬ (102 : Int32) = 101 by decide), if_pos (show (102 : Int32) = 102 from rfl), b_233_217, ro_is I, jx_cI_e a2]
  | 6, _, row =>
    obtain ⟨r0, r1⟩ := (show R.2.2.2.2.2.1 (6 * i) = 100 ∧ R.2.2.2.2.2.1 (6 * i + 1) = pz_v (6, l) 0 from row)
    refine rd_CD (m_162 I Q O (pz_v (6, l) 0)) (fun r M' w => ⟨r, w⟩) (fun e w => ⟨e, w⟩) (fun e => cd_pos2 e (-1)) ?_
    rw [a_233, ro_15 I, mz_6 i (by omega), i1, i2, i3, ro_rd7 I (k := 6 * i + 1) (by omega), ro_15 I, ro_rd7 I (k := 6 * i + 2) (by omega), ro_15 I, ro_rd7 I (k := 6 * i + 3) (by omega), ro_15 I, ro_rd7 I (k := 6 * i) (by omega), r0, if_pos (show (100 : Int32) = 100 from rfl), b_233_207, ro_is I, r1]
/-- the commands one by one -/
theorem rx_126 (hp : ro_pm R ≤ 8) : ∀ (l : List (Nat × List Nat)) (i : Nat) {h : jx_H} {S : Nat → Nat} {M : mm_T}, ro_I h y S 0 R → ro_S S M → mm_ok M → M.2.1 + l.length + 1 < 2 ^ 30 → ro_cn R = i + l.length → i + l.length ≤ 12 → (∀ j q, l[j]? = some q → cm_r R.2.2.2.2.2.1 (6 * (i + j)) q ∧ q.1 < 7 ∧ ∀ x, x ∈ q.2 → x < 128) →
    (∃ M' h' S', ex_l M l M' ∧ jx_E 234 126 [.ref y, .int (nI i)] [] h = some (.inl (some (.int (nI (i + l.length)))), h') ∧ ro_I h' y S' 0 (ro_P R (ro_ps8 R).1 (ro_ps8 R).2) ∧ ro_S S' M' ∧ mz_eq y (y + 8) h h') ∨
    (∃ j h', ex_f M l j ∧ j < l.length ∧ jx_E 234 126 [.ref y, .int (nI i)] [] h = some (.inl (some (.int 0)), h') ∧ ro_I h' y R.1 2 (ro_q14 R (nI (i + j))) ∧ mz_eq y (y + 8) h h')
  | [], i, h, S, M, I, Q, O, hx, hc, h12, hr => by
    have hc : ro_cn R = i := hc
    obtain ⟨h1, x1, I1, t1⟩ := m_137 I hp (nI i)
    refine Or.inl ⟨M, h1, S, rfl, ?_, I1, Q, t1⟩
    rw [b_234_126, ro_16 I, hc, if_pos (Int32.le_refl _), ro_16 I, hc, ro_is I, jx_cI_e x1]
    rfl
  | q :: l, i, h, S, M, I, Q, O, hx, hc, h12, hr => by
    have hc : ro_cn R = i + (l.length + 1) := hc
    have h12 : i + (l.length + 1) ≤ 12 := h12
    have hx : M.2.1 + (l.length + 1) + 1 < 2 ^ 30 := hx
    obtain ⟨row, q7, q128⟩ := hr 0 q rfl
    rcases m_233 I Q O (by omega) (show i < 12 by omega) row q7 q128 with ⟨M1, h1, S1, a1, a2, a3, a4, a5⟩ | ⟨t, h1, a1, a2, a3, a4, a5⟩
    · have E : jx_E 234 126 [.ref y, .int (nI i)] [] h = jx_E 234 126 [.ref y, .int (nI (i + 1))] [] h1 := by
        rw [b_234_126, ro_16 I, hc, if_neg (nI_ge (by omega) (by omega)), ro_is I, jx_cV_e a2, ro_6 a3, if_pos (by decide), nI_1]
      have nx := ex_nx a1
      rcases rx_126 hp l (i + 1) a3 a4 (mm_ok_ex O a1) (by omega) (by omega) (by omega) (fun j q hj => by
        have := hr (j + 1) q hj
        rw [show i + (j + 1) = i + 1 + j by omega] at this
        exact this) with ⟨M', h', S', b1, b2, b3, b4, b5⟩ | ⟨j, h', b1, b2, b3, b4, b5⟩
      · refine Or.inl ⟨M', h', S', ⟨M1, a1, b1⟩, ?_, b3, b4, mz_eq_tr a5 b5⟩
        rw [E, b2, show i + 1 + l.length = i + (q :: l).length by simp; omega]
      · refine Or.inr ⟨j + 1, h', ⟨M1, a1, b1⟩, by simp; omega, by rw [E, b3], ?_, mz_eq_tr a5 b5⟩
        rw [show i + (j + 1) = i + 1 + j by omega]
        exact b4
    · obtain ⟨h2, x2, I2, t2⟩ := ro_p14 a4 (nI i)
      obtain ⟨h3, x3, I3, t3⟩ := m_138 I2 2
      obtain ⟨h4, x4, I4, t4⟩ := m_137x I3 (show ¬ (2 : Int32) ≤ 0 by decide) 0
      refine Or.inr ⟨0, h4, a1, by simp, ?_, I4, mz_eq_tr a5 (mz_eq_tr t2 (mz_eq_tr t3 t4))⟩
      rw [b_234_126, ro_16 I, hc, if_neg (nI_ge (by omega) (by omega)), ro_is I, jx_cV_e a3, ro_6 a4, if_neg a2, x2, ro_is I2, jx_cI_e x3, ro_is I3, jx_cI_e x4]
end RD
/-- behind a fault of the text; behind a text that was read -/
def ro_e1 (R : ro_R) (e : Nat) (cm : Nat → Int32) (cn : Nat) : ro_R := ro_Y (ro_q13 (ro_k R e true cm cn) (nI e)) R.2.2.2.2.1 0
def ro_e0 (R : ro_R) (S : Nat → Nat) (cm : Nat → Int32) (cn : Nat) : ro_R := ro_B (ro_Y (ro_q13 (ro_k R (ro_il R) false cm cn) (ro_kp R)) R.2.2.2.2.1 0) S
section RD
variable {xs : List Int32} {h : jx_H} {y : Nat} {S : Nat → Nat} {R : ro_R} {M : mm_T} {th : Int32}
theorem m_234 (K : mz_K xs h) (I : ro_I h y S th R) (Q : ro_S S M) (O : mm_ok M) (hx : M.2.1 + 13 < 2 ^ 30) (hp : ro_pm R ≤ 8) (hL : ro_il R ≤ 60) (ht : ∀ i, i < ro_il R → R.2.2.2.2.1 i < 65536) :
    match pz_A (pz_c R.2.2.2.2.1 (ro_il R)) (ro_il R) 12 0 with
    | .inl e => ∃ h' cm cn, e ≤ 60 ∧ jx_A 234 [.ref y] h = some (.inl (some (.int 0)), h') ∧ ro_I h' y S 1 (ro_e1 R e cm cn) ∧ mz_eq y (y + 8) h h'
    | .inr l => ∃ cm cn, (∃ M' h' S', ex_l M l M' ∧ jx_A 234 [.ref y] h = some (.inl (some (.int (nI l.length))), h') ∧ ro_I h' y S' 0 (ro_P (ro_e0 R S cm cn) (ro_ps8 (ro_e0 R S cm cn)).1 (ro_ps8 (ro_e0 R S cm cn)).2) ∧ ro_S S' M' ∧ mz_eq y (y + 8) h h') ∨
        (∃ j h', ex_f M l j ∧ j < 12 ∧ jx_A 234 [.ref y] h = some (.inl (some (.int 0)), h') ∧ ro_I h' y S 2 (ro_q14 (ro_e0 R S cm cn) (nI j)) ∧ mz_eq y (y + 8) h h') := by
  obtain ⟨h1, x1, I1, t1⟩ := ro_p11 I 0
  obtain ⟨h2, x2, I2, t2⟩ := ro_p12 I1 false
  obtain ⟨h3, x3, I3, t3⟩ := ro_p16 I2 0
  have ek : ro_q16 (ro_q12 (ro_q11 R 0) false) 0 = ro_k R 0 false R.2.2.2.2.2.1 0 := rfl
  rw [ek] at I3
  have J3 : rk_J h h3 y S th R 0 false R.2.2.2.2.2.1 0 := ⟨I3, mz_eq_tr t1 (mz_eq_tr t2 t3), Nat.zero_le _⟩
  obtain ⟨h4, po, mf, cm, cn, x4, J4, -, q⟩ := rx_all K hL ht jx_j 12 0 0 R.2.2.2.2.2.1 h3 rfl (Nat.le_refl _) J3
  have E : jx_A 234 [.ref y] h = jx_E 234 53 [.ref y, jx_j] [] h4 := by
    rw [a_234, x1, show (Value.int 0) = Value.int (bI false) from rfl, x2, show (Value.int (bI false)) = Value.int (nI 0) from rfl, x3, rk_is J3]
    exact x4
  -- what follows a fault
  have bad : ∀ e, po = e → (mf = true ∨ (mf = false ∧ po < ro_il R)) → ∃ h' cm cn, e ≤ 60 ∧ jx_A 234 [.ref y] h = some (.inl (some (.int 0)), h') ∧ ro_I h' y S 1 (ro_e1 R e cm cn) ∧ mz_eq y (y + 8) h h' := by
    rintro e rfl hm
    obtain ⟨h5, x5, J5⟩ := rk_p12 J4 true
    have l5 := J5.2.2
    have E5 : jx_A 234 [.ref y] h = jx_E 234 99 [.ref y, jx_j] [.int (nI po), .ref y] h5 := by
      rw [E, b_234_53, rk_12 J4]
      rcases hm with rfl | ⟨rfl, lt⟩
      · rw [if_neg (show ¬ bI true = 0 by decide), show (Value.int 1) = Value.int (bI true) from rfl, x5, rk_12 J5, if_neg (show ¬ bI true = 0 by decide), rk_11 J5]
      · rw [if_pos (show bI false = 0 from rfl), rk_11 J4, rk_10 J4, if_neg (nI_ge lt (by omega)), show (Value.int 1) = Value.int (bI true) from rfl, x5, rk_12 J5, if_neg (show ¬ bI true = 0 by decide), rk_11 J5]
    obtain ⟨h6, x6, I6, t6⟩ := ro_p13 J5.1 (nI po)
    obtain ⟨h7, x7, I7, t7⟩ := ro_p10 I6 0
    obtain ⟨h8, x8, I8, t8⟩ := m_138 I7 1
    have x7' : ∀ F, jx_pt h6 y 8 10 (.int 0) F = F h7 := x7
    have e12 : ∀ F, jx_gI h7 y 8 12 F = F (bI true) := fun F => ro_12 I7 F
    refine ⟨h8, cm, cn, by omega, ?_, I8, mz_eq_tr J5.2.1 (mz_eq_tr t6 (mz_eq_tr t7 t8))⟩
    rw [E5, b_234_99, x6, x7', e12, if_neg (show ¬ bI true = 0 by decide), ro_is I7, jx_cI_e x8]
  cases e : pz_A (pz_c R.2.2.2.2.1 (ro_il R)) (ro_il R) 12 0 with
  | inl e2 =>
    rw [e] at q
    exact bad e2 q.1 q.2
  | inr l =>
    rw [e] at q
    obtain ⟨rfl, rfl, cnl, cn12, rows⟩ := q
    have cnl : cn = l.length := by omega
    subst cnl
    refine ⟨cm, l.length, ?_⟩
    obtain ⟨h5, x5, J5⟩ := rk_p12 J4 false
    have E5 : jx_A 234 [.ref y] h = jx_E 234 99 [.ref y, jx_j] [.int (ro_kp R), .ref y] h5 := by
      have e13 : ∀ F, jx_gI h5 y 8 13 F = F (ro_kp R) := fun F => ro_13 J5.1 F
      rw [E, b_234_53, rk_12 J4, if_pos (show bI false = 0 from rfl), rk_11 J4, rk_10 J4, if_pos (Int32.le_refl _), show (Value.int 0) = Value.int (bI false) from rfl, x5, rk_12 J5, if_pos (show bI false = 0 from rfl), e13]
    obtain ⟨h6, x6, I6, t6⟩ := ro_p13 J5.1 (ro_kp R)
    obtain ⟨h7, x7, I7, t7⟩ := ro_p10 I6 0
    obtain ⟨h8, x8, I8, t8⟩ := m_136 I7
    have x7' : ∀ F, jx_pt h6 y 8 10 (.int 0) F = F h7 := x7
    have e12 : ∀ F, jx_gI h7 y 8 12 F = F (bI false) := fun F => ro_12 I7 F
    have I9 : ro_I h8 y S 0 (ro_e0 R S cm l.length) := I8
    have t9 : mz_eq y (y + 8) h h8 := mz_eq_tr J5.2.1 (mz_eq_tr t6 (mz_eq_tr t7 t8))
    have E9 : jx_A 234 [.ref y] h = jx_E 234 126 [.ref y, .int (nI 0)] [] h8 := by
      rw [E5, b_234_99, x6, x7', e12, if_pos (show bI false = 0 from rfl), ro_is I7, jx_cV_e x8]
      rfl
    rcases rx_126 (R := ro_e0 R S cm l.length) (show ro_pm (ro_e0 R S cm l.length) ≤ 8 from hp) l 0 I9 Q O (by omega) (show l.length = 0 + l.length by omega) (by omega) (fun j q hj => rows j q hj) with ⟨M', h', S', b1, b2, b3, b4, b5⟩ | ⟨j, h', b1, b2, b3, b4, b5⟩
    · refine Or.inl ⟨M', h', S', b1, ?_, b3, b4, mz_eq_tr t9 b5⟩
      rw [E9, b2, Nat.zero_add]
    · refine Or.inr ⟨j, h', b1, by omega, by rw [E9, b3], ?_, mz_eq_tr t9 b5⟩
      rw [Nat.zero_add] at b4
      exact b4
end RD
end JX
