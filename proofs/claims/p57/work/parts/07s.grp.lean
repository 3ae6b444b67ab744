/-! Groups by search. -/
section JX
theorem mz_pig : ∀ (n m : Nat) (f : Nat → Nat), (∀ i, i < m → f i < n) → (∀ i j, i < m → j < m → f i = f j → i = j) → m ≤ n
  | 0, m, f, h1, _ => by
    by_cases z : m = 0
    · omega
    · exact absurd (h1 0 (by omega)) (Nat.not_lt_zero _)
  | n + 1, m, f, h1, h2 => by
    by_cases z : ∃ i, i < m ∧ f i = n
    · obtain ⟨i0, hi0, e0⟩ := z
      have := mz_pig n (m - 1) (fun i => if i = i0 then f (m - 1) else f i) (fun i hi => by
        show (if i = i0 then f (m - 1) else f i) < n
        by_cases y : i = i0
        · rw [if_pos y]
          have a := h1 (m - 1) (by omega)
          have b : f (m - 1) ≠ n := fun q => by have := h2 (m - 1) i0 (by omega) hi0 (q.trans e0.symm); omega
          omega
        · rw [if_neg y]
          have a := h1 i (by omega)
          have b : f i ≠ n := fun q => y (h2 i i0 (by omega) hi0 (q.trans e0.symm))
          omega) (fun i j hi hj q => by
        have q' : (if i = i0 then f (m - 1) else f i) = (if j = i0 then f (m - 1) else f j) := q
        by_cases y : i = i0 <;> by_cases y2 : j = i0
        · omega
        · rw [if_pos y, if_neg y2] at q'
          have := h2 (m - 1) j (by omega) (by omega) q'; omega
        · rw [if_neg y, if_pos y2] at q'
          have := h2 i (m - 1) (by omega) (by omega) q'; omega
        · rw [if_neg y, if_neg y2] at q'
          exact h2 i j (by omega) (by omega) q')
      omega
    · have := mz_pig n m f (fun i hi => by
        have a := h1 i hi
        have b : f i ≠ n := fun q => z ⟨i, hi, q⟩
        omega) h2
      omega
/-- reached by joins from a cell -/
def mm_re (o : Nat → Option fg_T) (s c : Nat) : Prop := ∀ S : Nat → Prop, S s → (∀ d t d', d < 64 → t < 4 → S d → mm_ct o d t = 1 → mz_bs d t = some d' → S d') → S c
theorem mm_re_0 {o : Nat → Option fg_T} {s : Nat} : mm_re o s s := fun _ h _ => h
theorem mm_re_s {o : Nat → Option fg_T} {s d t d' : Nat} (h : mm_re o s d) (hd : d < 64) (ht : t < 4) (e : mm_ct o d t = 1) (e2 : mz_bs d t = some d') : mm_re o s d' := fun S h1 h2 => h2 d t d' hd ht (h S h1 h2) e e2
noncomputable def mm_gb (o : Nat → Option fg_T) (s c : Nat) : Bool := @decide (mm_re o s c) (Classical.propDecidable _)
theorem mm_gb_iff {o : Nat → Option fg_T} {s c : Nat} : mm_gb o s c = true ↔ mm_re o s c := by unfold mm_gb; exact @decide_eq_true_iff _ (Classical.propDecidable _)
noncomputable def mm_gk (o : Nat → Option fg_T) (s : Nat) : Int64 := mz_mk (mm_gb o s)
theorem mm_re_cong {o o' : Nat → Option fg_T} (h : ∀ c, c < 64 → o c = o' c) {s c : Nat} (q : mm_re o s c) : mm_re o' s c := fun S h1 h2 => q S h1 (fun d t d' hd ht hs e e2 => h2 d t d' hd ht hs (by rw [← mm_ct_cong h hd ht]; exact e) e2)
theorem mm_gk_cong {o o' : Nat → Option fg_T} (h : ∀ c, c < 64 → o c = o' c) (s : Nat) : mm_gk o s = mm_gk o' s := by
  unfold mm_gk
  refine mz_mk_cong (fun c _ => ?_)
  rw [Bool.eq_iff_iff, mm_gb_iff, mm_gb_iff]
  exact ⟨mm_re_cong h, mm_re_cong (fun c hc => (h c hc).symm)⟩
theorem mm_ct_nb {o : Nat → Option fg_T} {c s : Nat} (h : mm_ct o c s ≠ 0) : ∃ f d f', o c = some f ∧ mz_bs c s = some d ∧ o d = some f' := by
  unfold mm_ct at h
  cases e : o c with
  | none => rw [e] at h; exact absurd rfl h
  | some f =>
    rw [e] at h
    cases e2 : mz_bs c s with
    | none => rw [e2] at h; exact absurd rfl h
    | some d =>
      rw [e2] at h
      cases e3 : o d with
      | none =>
        exfalso
        apply h
        show (match (some d).bind o with | none => 0 | some f' => bif fg_fit f s f' then 1 else 2) = 0
        rw [show (some d).bind o = none from e3]
      | some f' => exact ⟨f, d, f', rfl, rfl, e3⟩
section GU
variable {xs : List Int32} {h : jx_H} {a n nx r : Nat} {p : Nat → Nat} {A : Nat → fg_T} {g : Nat → Option Nat}
theorem gu_pq {qu : Nat → Value} {pa : Nat → Int32} (G : gu_I h r qu pa) {k : Nat} (hk : k < 20) (v : Value) : ∃ h', (∀ F, jx_st h (r + 1) 111 (nI k) v F = F h') ∧ gu_I h' r (mz_up qu k v) pa ∧ mz_eq r (r + 3) h h' := by
  obtain ⟨h1, h2, h3, h4⟩ := G
  refine ⟨_, fun F => mz_st h2 (by omega) hk (by decide) F, ⟨by rw [mz_set_n (by omega)]; exact h1, ?_, by rw [mz_set_n (by omega)]; exact h3, h4⟩, mz_eq_st (by omega) (by omega)⟩
  rw [mz_set_e]; rfl
theorem gu_pp {qu : Nat → Value} {pa : Nat → Int32} (G : gu_I h r qu pa) {k : Nat} (hk : k < 64) (v : Int32) : ∃ h', (∀ F, jx_st h (r + 2) 100 (nI k) (.int v) F = F h') ∧ gu_I h' r qu (mz_up pa k v) ∧ mz_eq r (r + 3) h h' := by
  obtain ⟨h1, h2, h3, h4⟩ := G
  refine ⟨_, fun F => mz_st h3 (by omega) hk (by decide) F, ⟨by rw [mz_set_n (by omega)]; exact h1, by rw [mz_set_n (by omega)]; exact h2, ?_, h4⟩, mz_eq_st (by omega) (by omega)⟩
  rw [mz_set_e]
  congr 2
  refine mz_ar_cong (fun j hj => ?_)
  unfold mz_up
  split <;> rfl
theorem gu_0 {qu : Nat → Value} {pa : Nat → Int32} (G : gu_I h r qu pa) (F : Nat → jx_R) : jx_gA h r 3 0 F = F (r + 1) := jx_gA_e G.1 rfl F
theorem gu_1 {qu : Nat → Value} {pa : Nat → Int32} (G : gu_I h r qu pa) (F : Nat → jx_R) : jx_gA h r 3 1 F = F (r + 2) := jx_gA_e G.1 rfl F
theorem gu_is {qu : Nat → Value} {pa : Nat → Int32} (G : gu_I h r qu pa) (F : jx_R) : jx_is h r 3 F = F := jx_is_e G.1 F
/-- the search's state: the queue has L cells, those ahead of place i are done, and of that at i the sides below s -/
def gq_I (h0 : jx_H) (r a c0 : Nat) (g : Nat → Option Nat) (o : Nat → Option fg_T) (i s : Nat) (u : jx_H) (m : Int64) (L : Nat) : Prop :=
  ∃ (qc qp : Nat → Nat) (qu : Nat → Value) (pa : Nat → Int32), gu_I u r qu pa ∧ (∀ j, j < L → qu j = .ref (bd_f a (qp j)) ∧ qc j < 64 ∧ g (qc j) = some (qp j) ∧ mm_re o c0 (qc j)) ∧ (∀ j k, j < L → k < L → qc j = qc k → j = k) ∧ (∀ c, c < 64 → (mb m c = true ↔ ∃ j, j < L ∧ qc j = c)) ∧ 0 < L ∧ qc 0 = c0 ∧ L ≤ 20 ∧
    (∀ j t d, j < L → t < 4 → (j < i ∨ (j = i ∧ t < s)) → mm_ct o (qc j) t = 1 → mz_bs (qc j) t = some d → mb m d = true) ∧ mz_eq r (r + 3) h0 u
theorem m_25 (K : mz_K xs h) (H : bd_I h a n nx p A g) (W : bd_W n p A g) (G : gu_V h r) (hd : a + 43 ≤ r ∨ r + 3 ≤ a) {c0 i0 : Nat} (hc : c0 < 64) (hg : g c0 = some i0) : ∃ h', jx_A 25 [.ref r, .ref a, .ref (bd_f a i0)] h = some (.inl (some (.long (mm_gk (bd_o A g) c0))), h') ∧ gu_V h' r ∧ mz_eq r (r + 3) h h' := by
  obtain ⟨qu, pa, G⟩ := G
  have nr : jx_nc ≤ r := G.2.2.2
  have hi := bd_g H hc hg
  have ce : ∀ d j, d < 64 → g d = some j → fg_ce (A j) = d + 1 := fun d j hd e => (W.2.1 d j hd e).1
  obtain ⟨h1, x1, G1, t1⟩ := gu_pq G (k := 0) (by decide) (.ref (bd_f a i0))
  have fin : ∀ i u m L (v7 v8 v9 : Value), i ≤ 20 → L ≤ i → gq_I h r a c0 g (bd_o A g) i 0 u m L → ∃ h', jx_E 25 21 [.ref r, .ref a, .ref (bd_f a i0), .long m, jx_j, .int (nI L), .int (nI i), v7, v8, v9] [] u = some (.inl (some (.long (mm_gk (bd_o A g) c0))), h') ∧ gu_V h' r ∧ mz_eq r (r + 3) h h' := by
    rintro i u m L v7 v8 v9 hi20 hLi ⟨qc, qp, qu, pa, Gu, q1, q2, q3, q4, q5, q6, q7, tu⟩
    refine ⟨u, ?_, ⟨qu, pa, Gu⟩, tu⟩
    rw [b_25_21, if_pos (nI_le hLi (by omega))]
    have : m = mm_gk (bd_o A g) c0 := by
      refine mz_mk_of (fun c hc => ?_)
      rw [Bool.eq_iff_iff, mm_gb_iff]
      constructor
      · intro e
        obtain ⟨j, hj, rfl⟩ := (q3 c hc).mp e
        exact (q1 j hj).2.2.2
      · intro e
        refine e (fun d => mb m d = true) ((q3 c0 (by rw [← q5]; exact (q1 0 q4).2.1)).mpr ⟨0, q4, q5⟩) (fun d t d' hd ht e1 e2 e3 => ?_)
        obtain ⟨j, hj, rfl⟩ := (q3 d hd).mp e1
        exact q7 j t d' hj ht (Or.inl (by omega)) e2 e3
    rw [this]
  rw [a_25, bd_fce H hi, ce c0 i0 hc hg, mz_pred, jx_cL_e (m_129 c0 h), gu_0 G, bd_fis H hi, show jx_st h (r + 1) 111 0 (.ref (bd_f a i0)) = jx_st h (r + 1) 111 (nI 0) (.ref (bd_f a i0)) from rfl, x1]
  refine mz_inv (γ := jx_H × Int64 × Nat × Value × Value × Value) (fun i z => jx_E 25 21 [.ref r, .ref a, .ref (bd_f a i0), .long z.2.1, jx_j, .int (nI z.2.2.1), .int (nI i), z.2.2.2.1, z.2.2.2.2.1, z.2.2.2.2.2] [] z.1) (fun i z => gq_I h r a c0 g (bd_o A g) i 0 z.1 z.2.1 z.2.2.1) 20 (fun X => ∃ h', X = some (.inl (some (.long (mm_gk (bd_o A g) c0))), h') ∧ gu_V h' r ∧ mz_eq r (r + 3) h h') ?_ ?_ 0 (h1, mz_bit c0, 1, jx_j, jx_j, jx_j) (by decide) ?_
  · rintro ⟨u, m, L, v7, v8, v9⟩ I
    have hL : L ≤ 20 := by obtain ⟨_, _, _, _, _, _, _, _, _, _, q6, _⟩ := I; exact q6
    exact fin 20 u m L v7 v8 v9 (Nat.le_refl _) hL I
  · rintro i ⟨u, m, L, v7, v8, v9⟩ hi20 I
    by_cases hLi : L ≤ i
    · exact Or.inl (fin i u m L v7 v8 v9 (by omega) hLi I)
    · have hiL : i < L := by omega
      refine Or.inr ?_
      have I0 := I
      obtain ⟨qc, qp, qu, pa, Gu, q1, q2, q3, q4, q5, q6, q7, tu⟩ := I
      dsimp only at Gu q1 q2 q3 q4 q6 q7 tu
      obtain ⟨e1, e2, e3, e4⟩ := q1 i hiL
      have E0 : jx_E 25 21 [.ref r, .ref a, .ref (bd_f a i0), .long m, jx_j, .int (nI L), .int (nI i), v7, v8, v9] [] u = jx_E 25 40 [.ref r, .ref a, .ref (bd_f a i0), .long m, jx_j, .int (nI L), .int (nI i), .ref (bd_f a (qp i)), .int (nI 0), v9] [] u := by
        rw [b_25_21, if_neg (nI_ge hiL (by omega)), gu_0 Gu, mz_lA Gu.2.1 (by omega) (by decide) e1]
        rfl
      show ∃ g' : jx_H × Int64 × Nat × Value × Value × Value, gq_I h r a c0 g (bd_o A g) (i + 1) 0 g'.1 g'.2.1 g'.2.2.1 ∧ jx_E 25 21 [.ref r, .ref a, .ref (bd_f a i0), .long m, jx_j, .int (nI L), .int (nI i), v7, v8, v9] [] u = jx_E 25 21 [.ref r, .ref a, .ref (bd_f a i0), .long g'.2.1, jx_j, .int (nI g'.2.2.1), .int (nI (i + 1)), g'.2.2.2.1, g'.2.2.2.2.1, g'.2.2.2.2.2] [] g'.1
      rw [E0]
      -- the sides of one piece: the queue's place i stays as it is
      refine mz_inv (γ := jx_H × Int64 × Nat × Value) (fun s z => jx_E 25 40 [.ref r, .ref a, .ref (bd_f a i0), .long z.2.1, jx_j, .int (nI z.2.2.1), .int (nI i), .ref (bd_f a (qp i)), .int (nI s), z.2.2.2] [] z.1)
        (fun s z => i < z.2.2.1 ∧ ∃ (qc' qp' : Nat → Nat) (qu' : Nat → Value) (pa' : Nat → Int32), qc' i = qc i ∧ gu_I z.1 r qu' pa' ∧ (∀ j, j < z.2.2.1 → qu' j = .ref (bd_f a (qp' j)) ∧ qc' j < 64 ∧ g (qc' j) = some (qp' j) ∧ mm_re (bd_o A g) c0 (qc' j)) ∧ (∀ j k, j < z.2.2.1 → k < z.2.2.1 → qc' j = qc' k → j = k) ∧ (∀ c, c < 64 → (mb z.2.1 c = true ↔ ∃ j, j < z.2.2.1 ∧ qc' j = c)) ∧ 0 < z.2.2.1 ∧ qc' 0 = c0 ∧ z.2.2.1 ≤ 20 ∧
          (∀ j t d, j < z.2.2.1 → t < 4 → (j < i ∨ (j = i ∧ t < s)) → mm_ct (bd_o A g) (qc' j) t = 1 → mz_bs (qc' j) t = some d → mb z.2.1 d = true) ∧ mz_eq r (r + 3) h z.1) 4
        (fun X => ∃ g' : jx_H × Int64 × Nat × Value × Value × Value, gq_I h r a c0 g (bd_o A g) (i + 1) 0 g'.1 g'.2.1 g'.2.2.1 ∧ X = jx_E 25 21 [.ref r, .ref a, .ref (bd_f a i0), .long g'.2.1, jx_j, .int (nI g'.2.2.1), .int (nI (i + 1)), g'.2.2.2.1, g'.2.2.2.2.1, g'.2.2.2.2.2] [] g'.1) ?_ ?_ 0 (u, m, L, v9) (by decide) ⟨hiL, qc, qp, qu, pa, rfl, Gu, q1, q2, q3, q4, q5, q6, q7, tu⟩
      · rintro ⟨w, m2, L2, z9⟩ ⟨hiL2, qc', qp', qu', pa', k0, k1, k2, k3, k4, k5, k6, k7, k8, tw⟩
        refine ⟨(w, m2, L2, .ref (bd_f a (qp i)), .int (nI 4), z9), ⟨qc', qp', qu', pa', k1, k2, k3, k4, k5, k6, k7, fun j t d hj ht hjt => k8 j t d hj ht (by omega), tw⟩, ?_⟩
        show jx_E 25 40 _ _ _ = _
        rw [b_25_40, if_pos (by decide), nI_1]
      · rintro s ⟨w, m2, L2, z9⟩ hs ⟨hiL2, qc', qp', qu', pa', k0, k1, k2, k3, k4, k5, k6, k7, k8, tw⟩
        dsimp only at hiL2 k1 k2 k3 k4 k5 k6 k7 k8 tw
        have Kw := mz_K_eq K tw nr
        have Hw := bd_eq H tw hd
        have hqi := bd_g H e2 e3
        have e13 := m_13 Kw Hw e2 hs
        have step : ∀ (z' : jx_H × Int64 × Nat × Value), True := fun _ => trivial
        refine Or.inr ?_
        show ∃ g' : jx_H × Int64 × Nat × Value, _ ∧ jx_E 25 40 [.ref r, .ref a, .ref (bd_f a i0), .long m2, jx_j, .int (nI L2), .int (nI i), .ref (bd_f a (qp i)), .int (nI s), z9] [] w = jx_E 25 40 [.ref r, .ref a, .ref (bd_f a i0), .long g'.2.1, jx_j, .int (nI g'.2.2.1), .int (nI i), .ref (bd_f a (qp i)), .int (nI (s + 1)), g'.2.2.2] [] g'.1
        -- nothing is added
        have keep : ∀ z9' : Value, (∀ d, mm_ct (bd_o A g) (qc i) s = 1 → mz_bs (qc i) s = some d → mb m2 d = true) → i < L2 ∧ ∃ (qc' qp' : Nat → Nat) (qu' : Nat → Value) (pa' : Nat → Int32), qc' i = qc i ∧ gu_I w r qu' pa' ∧ (∀ j, j < L2 → qu' j = .ref (bd_f a (qp' j)) ∧ qc' j < 64 ∧ g (qc' j) = some (qp' j) ∧ mm_re (bd_o A g) c0 (qc' j)) ∧ (∀ j k, j < L2 → k < L2 → qc' j = qc' k → j = k) ∧ (∀ c, c < 64 → (mb m2 c = true ↔ ∃ j, j < L2 ∧ qc' j = c)) ∧ 0 < L2 ∧ qc' 0 = c0 ∧ L2 ≤ 20 ∧
          (∀ j t d, j < L2 → t < 4 → (j < i ∨ (j = i ∧ t < s + 1)) → mm_ct (bd_o A g) (qc' j) t = 1 → mz_bs (qc' j) t = some d → mb m2 d = true) ∧ mz_eq r (r + 3) h w := fun _ hh =>
          ⟨hiL2, qc', qp', qu', pa', k0, k1, k2, k3, k4, k5, k6, k7, fun j t d hj ht hjt a1 a2 => by
            by_cases y : j = i ∧ t = s
            · obtain ⟨rfl, rfl⟩ := y
              rw [k0] at a1 a2
              exact hh d a1 a2
            · exact k8 j t d hj ht (by omega) a1 a2, tw⟩
        cases en : bd_nb g (qc i) s with
        | none =>
          refine ⟨(w, m2, L2, .null), keep .null (fun d a1 a2 => ?_), ?_⟩
          · exfalso
            obtain ⟨f, d', f', b1, b2, b3⟩ := mm_ct_nb (o := bd_o A g) (c := qc i) (s := s) (by rw [a1]; decide)
            have := bd_nb_o (A := A) (g := g) (c := qc i) (s := s)
            rw [en, b2] at this
            have : bd_o A g d' = none := this
            rw [b3] at this
            cases this
          · show jx_E 25 40 _ _ _ = jx_E 25 40 _ _ _
            rw [b_25_40, if_neg (show ¬ (4 : Int32) ≤ nI s from nI_ge hs (by decide)), bd_fce Hw hqi, ce _ _ e2 e3, mz_pred, bd_is Hw, jx_cN_n (by rw [e13, en]; rfl), nI_1]
        | some j =>
          have hj := bd_nb20 H e2 hs en
          obtain ⟨d, b1, b2⟩ : ∃ d, mz_bs (qc i) s = some d ∧ g d = some j := by
            unfold bd_nb at en
            cases y : mz_bs (qc i) s with
            | none => rw [y] at en; cases en
            | some d => rw [y] at en; exact ⟨d, rfl, en⟩
          have hd64 := mz_bs64 e2 hs b1
          have z16 := m_16 Kw Hw e2 e3 (ce _ _ e2 e3) hs true
          have z16' : jx_A 16 [.ref a, .ref (bd_f a (qp i)), .int (nI s), .int 1] w = some (.inl (some (.int (bI (mm_ct (bd_o A g) (qc i) s == 1)))), w) := z16
          rw [b_25_40, if_neg (show ¬ (4 : Int32) ≤ nI s from nI_ge hs (by decide)), bd_fce Hw hqi, ce _ _ e2 e3, mz_pred, bd_is Hw, jx_cN_e (x := bd_f a j) (by rw [e13, en]; rfl), bd_is Hw, jx_cI_e z16']
          simp only [nI_1]
          by_cases ec : mm_ct (bd_o A g) (qc i) s = 1
          · rw [if_neg (by rw [show (mm_ct (bd_o A g) (qc i) s == 1) = true from beq_iff_eq.mpr ec]; decide), bd_fce Hw hj, ce d j hd64 b2, mz_pred, jx_cL_e (m_129 d w)]
            cases em : mb m2 d with
            | true =>
              refine ⟨(w, m2, L2, .ref (bd_f a j)), keep (.ref (bd_f a j)) (fun d' a1 a2 => by rw [b1] at a2; cases a2; exact em), ?_⟩
              rw [if_neg (fun y => by rw [(lg_bit hd64).mp y] at em; cases em)]
            | false =>
              rw [if_pos ((lg_bit hd64).mpr em)]
              -- there is room
              have room : L2 < 20 := by
                have inj : ∀ x y, x < L2 → y < L2 → qp' x = qp' y → x = y := fun x y hx hy e => by
                  have c1 := ce _ _ (k2 x hx).2.1 (k2 x hx).2.2.1
                  have c2 := ce _ _ (k2 y hy).2.1 (k2 y hy).2.2.1
                  rw [e, c2] at c1
                  exact k3 x y hx hy (Nat.succ.inj c1).symm
                have := mz_pig 20 (L2 + 1) (mz_up qp' L2 j) (fun x hx => by
                  unfold mz_up
                  split
                  · exact hj
                  · exact bd_g H (k2 x (by omega)).2.1 (k2 x (by omega)).2.2.1) (fun x y hx hy e => by
                  have nn : ∀ x, x < L2 → qp' x ≠ j := fun x hx e => by
                    have c1 := ce _ _ (k2 x hx).2.1 (k2 x hx).2.2.1
                    rw [e, ce d j hd64 b2] at c1
                    have : qc' x = d := (Nat.succ.inj c1).symm
                    rw [(k4 d hd64).mpr ⟨x, hx, this⟩] at em
                    cases em
                  by_cases y1 : x = L2 <;> by_cases y2 : y = L2
                  · omega
                  · subst y1; rw [mz_up_s, mz_up_n y2] at e; exact absurd e.symm (nn y (by omega))
                  · subst y2; rw [mz_up_s, mz_up_n y1] at e; exact absurd e (nn x (by omega))
                  · rw [mz_up_n y1, mz_up_n y2] at e; exact inj x y (by omega) (by omega) e)
                omega
              obtain ⟨w2, x2, G2, s2⟩ := gu_pq k1 (k := L2) room (.ref (bd_f a j))
              refine ⟨(w2, m2 ||| mz_bit d, L2 + 1, .ref (bd_f a j)), ⟨show i < L2 + 1 by omega, mz_up qc' L2 d, mz_up qp' L2 j, _, pa', ?_, G2, fun x hx => ?_, fun x y hx hy e => ?_, fun c hc => ?_, show 0 < L2 + 1 by omega, ?_, show L2 + 1 ≤ 20 by omega, fun x t d' hx ht hjt a1 a2 => ?_, mz_eq_tr tw s2⟩, ?_⟩
              · rw [mz_up_n (by omega)]; exact k0
              · have hx' : x < L2 + 1 := hx
                by_cases y : x = L2
                · subst y
                  rw [mz_up_s, mz_up_s, mz_up_s]
                  exact ⟨rfl, hd64, b2, mm_re_s e4 e2 hs ec b1⟩
                · rw [mz_up_n y, mz_up_n y, mz_up_n y]
                  exact k2 x (by omega)
              · have hx' : x < L2 + 1 := hx
                have hy' : y < L2 + 1 := hy
                have nn : ∀ x, x < L2 → qc' x ≠ d := fun x hx e => by
                  rw [(k4 d hd64).mpr ⟨x, hx, e⟩] at em
                  cases em
                by_cases y1 : x = L2 <;> by_cases y2 : y = L2
                · omega
                · subst y1; rw [mz_up_s, mz_up_n y2] at e; exact absurd e.symm (nn y (by omega))
                · subst y2; rw [mz_up_s, mz_up_n y1] at e; exact absurd e (nn x (by omega))
                · rw [mz_up_n y1, mz_up_n y2] at e; exact k3 x y (by omega) (by omega) e
              · show mb (m2 ||| mz_bit d) c = true ↔ ∃ j, j < L2 + 1 ∧ mz_up qc' L2 d j = c
                rw [mb_or, mb_bit hd64, Bool.or_eq_true, decide_eq_true_eq, k4 c hc]
                constructor
                · rintro (⟨x, hx, e⟩ | e)
                  · exact ⟨x, by omega, by rw [mz_up_n (by omega)]; exact e⟩
                  · exact ⟨L2, by omega, by rw [mz_up_s]; exact e.symm⟩
                · rintro ⟨x, hx, e⟩
                  by_cases y : x = L2
                  · subst y; rw [mz_up_s] at e; exact Or.inr e.symm
                  · rw [mz_up_n y] at e; exact Or.inl ⟨x, by omega, e⟩
              · rw [mz_up_n (by omega)]; exact k6
              · have hx' : x < L2 + 1 := hx
                show mb (m2 ||| mz_bit d) d' = true
                have hxL : x < L2 := by omega
                rw [mz_up_n (by omega)] at a1 a2
                rw [mb_or, Bool.or_eq_true]
                by_cases y : x = i ∧ t = s
                · obtain ⟨rfl, rfl⟩ := y
                  rw [k0, b1] at a2
                  cases a2
                  exact Or.inr (by rw [mb_bit hd64]; simp)
                · exact Or.inl (k8 x t d' hxL ht (by omega) a1 a2)
              · rw [if_neg (show ¬ (20 : Int32) ≤ nI L2 from nI_ge room (by decide)), bd_fce Hw hj, ce d j hd64 b2, mz_pred, jx_cL_e (m_129 d w), gu_0 k1, bd_fis Hw hj, x2]
          · refine ⟨(w, m2, L2, .ref (bd_f a j)), keep (.ref (bd_f a j)) (fun d' a1 a2 => absurd a1 ec), ?_⟩
            rw [if_pos (by rw [show (mm_ct (bd_o A g) (qc i) s == 1) = false from beq_eq_false_iff_ne.mpr ec]; decide)]
  · refine ⟨fun _ => c0, fun _ => i0, _, pa, G1, fun j hj => ?_, fun j k hj hk _ => ?_, fun c hc' => ?_, (by decide : 0 < 1), rfl, (by decide : 1 ≤ 20), fun j t d hj ht hjt => by omega, t1⟩
    · have hj' : j < 1 := hj
      have : j = 0 := by omega
      subst this
      exact ⟨mz_up_s, hc, hg, mm_re_0⟩
    · have hj' : j < 1 := hj
      have hk' : k < 1 := hk
      omega
    · show mb (mz_bit c0) c = true ↔ ∃ j, j < 1 ∧ c0 = c
      rw [mb_bit hc, decide_eq_true_eq]
      exact ⟨fun e => ⟨0, by decide, e.symm⟩, fun ⟨_, _, e⟩ => e.symm⟩
end GU
end JX
