/-! Groups by unions; the class's methods about groups. -/
section JX
def uf_I (pn : Nat → Nat) (o : Nat → Option fg_T) (U : Nat) (rt ht : Nat → Nat) : Prop :=
  (∀ c, c < 64 → pn c < 64) ∧ (∀ c, c < 64 → rt c < 64 ∧ pn (rt c) = rt c ∧ rt (pn c) = rt c) ∧ (∀ c, c < 64 → pn c = c → rt c = c) ∧ (∀ c, c < 64 → pn c ≠ c → ht c < ht (pn c)) ∧ (∀ c, c < 64 → ht c ≤ U) ∧ (∀ c, c < 64 → mm_re o c (rt c))
def uf_n (pn : Nat → Nat) (o : Nat → Option fg_T) : Nat := mz_su (fun c => ((o c).isSome && pn c == c).toNat) 64
theorem uf_union {pn : Nat → Nat} {o : Nat → Option fg_T} {U : Nat} {rt ht : Nat → Nat} (I : uf_I pn o U rt ht) {c s d : Nat} (hc : c < 64) (hs : s < 4) (e : mm_ct o c s = 1) (e2 : mz_bs c s = some d) (ne : rt c ≠ rt d) :
    ∃ rt' ht', uf_I (mz_up pn (rt d) (rt c)) o (U + 1) rt' ht' ∧ (∀ x y, rt x = rt y → rt' x = rt' y) ∧ rt' c = rt' d ∧ uf_n (mz_up pn (rt d) (rt c)) o + 1 = uf_n pn o := by
  obtain ⟨i1, i2, i3, i4, i5, i6⟩ := I
  have hd := mz_bs64 hc hs e2
  obtain ⟨c1, c2, c3⟩ := i2 c hc
  obtain ⟨d1, d2, d3⟩ := i2 d hd
  have rc : rt (rt c) = rt c := i3 _ c1 c2
  have rd : rt (rt d) = rt d := i3 _ d1 d2
  refine ⟨fun x => if rt x = rt d then rt c else rt x, fun x => if x = rt c then max (ht (rt c)) (ht (rt d) + 1) else ht x, ⟨fun x hx => ?_, fun x hx => ?_, fun x hx q => ?_, fun x hx q => ?_, fun x hx => ?_, fun x hx => ?_⟩, fun x y q => ?_, ?_, ?_⟩
  · unfold mz_up
    split
    · exact c1
    · exact i1 x hx
  · obtain ⟨x1, x2, x3⟩ := i2 x hx
    refine ⟨?_, ?_, ?_⟩
    · show (if rt x = rt d then rt c else rt x) < 64
      split
      · exact c1
      · exact x1
    · show mz_up pn (rt d) (rt c) (if rt x = rt d then rt c else rt x) = if rt x = rt d then rt c else rt x
      by_cases z : rt x = rt d
      · rw [if_pos z, mz_up_n ne]; exact c2
      · rw [if_neg z, mz_up_n z]; exact x2
    · show (if rt (mz_up pn (rt d) (rt c) x) = rt d then rt c else rt (mz_up pn (rt d) (rt c) x)) = if rt x = rt d then rt c else rt x
      by_cases z : x = rt d
      · subst z
        rw [mz_up_s, rc, if_neg ne, rd, if_pos rfl]
      · rw [mz_up_n z, x3]
  · show (if rt x = rt d then rt c else rt x) = x
    by_cases z : x = rt d
    · subst z; rw [mz_up_s] at q; exact absurd q ne
    · rw [mz_up_n z] at q
      have := i3 x hx q
      rw [if_neg (by rw [this]; exact z), this]
  · show (if x = rt c then max (ht (rt c)) (ht (rt d) + 1) else ht x) < (if mz_up pn (rt d) (rt c) x = rt c then max (ht (rt c)) (ht (rt d) + 1) else ht (mz_up pn (rt d) (rt c) x))
    by_cases z : x = rt d
    · subst z
      rw [mz_up_s, if_pos rfl, if_neg (fun y => ne y.symm)]
      have := Nat.le_max_right (ht (rt c)) (ht (rt d) + 1)
      omega
    · rw [mz_up_n z] at q ⊢
      have xc : x ≠ rt c := fun y => by subst y; exact q c2
      rw [if_neg xc]
      have l := i4 x hx q
      split
      · rename_i y
        rw [y] at l
        have := Nat.le_max_left (ht (rt c)) (ht (rt d) + 1)
        omega
      · exact l
  · show (if x = rt c then max (ht (rt c)) (ht (rt d) + 1) else ht x) ≤ U + 1
    split
    · have := i5 _ c1
      have := i5 _ d1
      exact Nat.max_le.mpr ⟨by omega, by omega⟩
    · have := i5 x hx; omega
  · show mm_re o x (if rt x = rt d then rt c else rt x)
    by_cases z : rt x = rt d
    · rw [if_pos z]
      have a := i6 x hx
      rw [z] at a
      exact mm_re_t a (mm_re_t (mm_re_sym (i6 d hd)) (mm_re_t (mm_re_sym (mm_re_s mm_re_0 hc hs e e2)) (i6 c hc)))
    · rw [if_neg z]; exact i6 x hx
  · show (if rt x = rt d then rt c else rt x) = (if rt y = rt d then rt c else rt y)
    rw [q]
  · show (if rt c = rt d then rt c else rt c) = (if rt d = rt d then rt c else rt d)
    rw [if_neg ne, if_pos rfl]
  · have od : (o (rt d)).isSome = true := by
      obtain ⟨f, d', f', b1, b2, b3⟩ := mm_ct_nb (o := o) (c := c) (s := s) (by rw [e]; decide)
      rw [e2] at b2
      cases b2
      exact mm_re_oc (by rw [b3]; rfl) (i6 d hd)
    have := mz_su_rm (Q := fun x => (o x).isSome && pn x == x) (c := rt d) d1 (by show ((o (rt d)).isSome && pn (rt d) == rt d) = true; rw [od, d2, beq_self_eq_true]; rfl)
    unfold uf_n
    rw [← this]
    congr 1
    refine mz_su_cong (fun x hx => ?_)
    congr 1
    by_cases z : x = rt d
    · subst z
      rw [mz_up_s, beq_self_eq_true, beq_eq_false_iff_ne.mpr ne]
      cases (o (rt d)).isSome <;> cases (pn (rt d) == rt d) <;> rfl
    · rw [mz_up_n z, beq_eq_false_iff_ne.mpr z, Bool.not_false, Bool.and_true]
section GU
variable {xs : List Int32} {h : jx_H} {a n nx r : Nat} {p : Nat → Nat} {A : Nat → fg_T} {g : Nat → Option Nat} {qu : Nat → Value} {pn : Nat → Nat} {U : Nat} {rt ht : Nat → Nat} {o : Nat → Option fg_T}
theorem gu_pa (G : gu_I h r qu (fun c => nI (pn c))) {c : Nat} (hc : c < 64) (F : Int32 → jx_R) : jx_lI h (r + 2) 100 (nI c) F = F (nI (pn c)) := mz_lI G.2.2.1 hc (by decide) rfl F
theorem m_30 (G : gu_I h r qu (fun c => nI (pn c))) (I : uf_I pn o U rt ht) (hU : U < 64) {c : Nat} (hc : c < 64) : jx_A 30 [.ref r, .int (nI c)] h = some (.inl (some (.int (nI (rt c)))), h) := by
  obtain ⟨i1, i2, i3, i4, i5, i6⟩ := I
  rw [a_30]
  refine mz_inv (γ := Nat) (fun i x => jx_E 30 4 [.ref r, .int (nI c), .int (nI x), .int (nI i)] [] h) (fun i x => x < 64 ∧ rt x = rt c ∧ i ≤ ht x) 64 (fun X => X = some (.inl (some (.int (nI (rt c)))), h)) ?_ ?_ 0 c (by decide) ⟨hc, rfl, Nat.zero_le _⟩
  · rintro x ⟨x1, x2, x3⟩
    have := i5 x x1
    omega
  · rintro i x hi ⟨x1, x2, x3⟩
    have px := i1 x x1
    have E : jx_E 30 4 [.ref r, .int (nI c), .int (nI x), .int (nI i)] [] h = if nI (pn x) = nI x then some (.inl (some (.int (nI x))), h) else jx_E 30 4 [.ref r, .int (nI c), .int (nI (pn x)), .int (nI (i + 1))] [] h := by
      rw [b_30_4, if_neg (show ¬ (64 : Int32) ≤ nI i from nI_ge hi (by decide)), gu_1 G, gu_pa G x1]
      simp only [gu_1 G, gu_pa G x1, nI_1]
    by_cases z : pn x = x
    · left
      show jx_E 30 4 _ _ _ = _
      rw [E, if_pos (by rw [z]), ← x2, i3 x x1 z]
    · refine Or.inr ⟨pn x, ⟨px, (i2 x x1).2.2.trans x2, by have := i4 x x1 z; omega⟩, ?_⟩
      show jx_E 30 4 _ _ _ = jx_E 30 4 _ _ _
      rw [E, if_neg (fun q => z ((nI_eq (by omega) (by omega)).mp q))]
theorem m_29 (K : mz_K xs h) (H : bd_I h a n nx p A g) (W : bd_W n p A g) (G : gu_I h r qu (fun c => nI (pn c))) (hd : a + 43 ≤ r ∨ r + 3 ≤ a) (I : uf_I pn (bd_o A g) U rt ht) (hU : U < 63) {c i s : Nat} (hc : c < 64) (hg : g c = some i) (hs : s < 4) :
    ∃ h' pn' rt' ht' res, jx_A 29 [.ref r, .ref a, .ref (bd_f a i), .int (nI s)] h = some (.inl (some (.int (nI res))), h') ∧ gu_I h' r qu (fun c => nI (pn' c)) ∧ uf_I pn' (bd_o A g) (U + 1) rt' ht' ∧ (∀ x y, rt x = rt y → rt' x = rt' y) ∧ (∀ d, mm_ct (bd_o A g) c s = 1 → mz_bs c s = some d → rt' c = rt' d) ∧ uf_n pn' (bd_o A g) + res = uf_n pn (bd_o A g) ∧ mz_eq r (r + 3) h h' := by
  have hi := bd_g H hc hg
  have ce : ∀ d j, d < 64 → g d = some j → fg_ce (A j) = d + 1 := fun d j hd e => (W.2.1 d j hd e).1
  have I1 : uf_I pn (bd_o A g) (U + 1) rt ht := ⟨I.1, I.2.1, I.2.2.1, I.2.2.2.1, fun x hx => by have := I.2.2.2.2.1 x hx; omega, I.2.2.2.2.2⟩
  have e13 := m_13 K H hc hs
  cases en : bd_nb g c s with
  | none =>
    refine ⟨h, pn, rt, ht, 0, ?_, G, I1, fun _ _ q => q, fun d e1 e2 => ?_, rfl, mz_eq_rf⟩
    · rw [a_29, bd_fce H hi, ce c i hc hg, mz_pred, bd_is H, jx_cN_n (by rw [e13, en]; rfl)]
      rfl
    · exfalso
      obtain ⟨f, d', f', b1, b2, b3⟩ := mm_ct_nb (o := bd_o A g) (c := c) (s := s) (by rw [e1]; decide)
      have := bd_nb_o (A := A) (g := g) (c := c) (s := s)
      rw [en, b2] at this
      have : bd_o A g d' = none := this
      rw [b3] at this
      cases this
  | some j =>
    have hj := bd_nb20 H hc hs en
    obtain ⟨d, b1, b2⟩ : ∃ d, mz_bs c s = some d ∧ g d = some j := by
      unfold bd_nb at en
      cases y : mz_bs c s with
      | none => rw [y] at en; cases en
      | some d => rw [y] at en; exact ⟨d, rfl, en⟩
    have hd64 := mz_bs64 hc hs b1
    have z16 : jx_A 16 [.ref a, .ref (bd_f a i), .int (nI s), .int 1] h = some (.inl (some (.int (bI (mm_ct (bd_o A g) c s == 1)))), h) := m_16 K H hc hg (ce c i hc hg) hs true
    by_cases ec : mm_ct (bd_o A g) c s = 1
    · have r1 := m_30 G I (by omega) hc
      have r2 := m_30 G I (by omega) hd64
      obtain ⟨h2, x2, G2, s2⟩ := gu_pp G (k := rt d) (I.2.1 d hd64).1 (nI (rt c))
      have G3 : gu_I h2 r qu (fun x => nI (mz_up pn (rt d) (rt c) x)) := by
        have : mz_up (fun c => nI (pn c)) (rt d) (nI (rt c)) = fun x => nI (mz_up pn (rt d) (rt c) x) := by
          funext x
          unfold mz_up
          split <;> rfl
        rw [this] at G2
        exact G2
      have E : jx_A 29 [.ref r, .ref a, .ref (bd_f a i), .int (nI s)] h = if nI (rt c) = nI (rt d) then some (.inl (some (.int 0)), h2) else some (.inl (some (.int 1)), h2) := by
        rw [a_29, bd_fce H hi, ce c i hc hg, mz_pred, bd_is H, jx_cN_e (x := bd_f a j) (by rw [e13, en]; rfl), bd_is H, jx_cI_e z16, if_neg (by rw [show (mm_ct (bd_o A g) c s == 1) = true from beq_iff_eq.mpr ec]; decide), bd_fce H hi, ce c i hc hg, mz_pred, gu_is G, jx_cI_e r1, bd_fce H hj, ce d j hd64 b2, mz_pred, gu_is G, jx_cI_e r2, gu_1 G, x2]
      by_cases ne : rt c = rt d
      · have same : mz_up pn (rt d) (rt c) = pn := by
          funext x
          unfold mz_up
          split
          · rename_i y; subst y; rw [ne]; exact (I.2.1 d hd64).2.1.symm
          · rfl
        rw [same] at G3
        refine ⟨h2, pn, rt, ht, 0, by rw [E, if_pos (by rw [ne])]; rfl, G3, I1, fun _ _ q => q, fun d' _ e2 => ?_, rfl, s2⟩
        rw [b1] at e2; cases e2; exact ne
      · obtain ⟨rt', ht', I2, q1, q2, q3⟩ := uf_union I hc hs ec b1 ne
        refine ⟨h2, _, rt', ht', 1, ?_, G3, I2, q1, fun d' _ e2 => ?_, q3, s2⟩
        · rw [E, if_neg (fun q => ne ((nI_eq (by have := (I.2.1 c hc).1; omega) (by have := (I.2.1 d hd64).1; omega)).mp q))]; rfl
        · rw [b1] at e2; cases e2; exact q2
    · refine ⟨h, pn, rt, ht, 0, ?_, G, I1, fun _ _ q => q, fun d e1 e2 => absurd e1 ec, rfl, mz_eq_rf⟩
      rw [a_29, bd_fce H hi, ce c i hc hg, mz_pred, bd_is H, jx_cN_e (x := bd_f a j) (by rw [e13, en]; rfl), bd_is H, jx_cI_e z16, if_pos (by rw [show (mm_ct (bd_o A g) c s == 1) = false from beq_eq_false_iff_ne.mpr ec]; decide)]
      rfl
theorem uf_gc (I : uf_I pn o U rt ht) (hcl : ∀ c t d, c < 64 → t < 4 → mm_ct o c t = 1 → mz_bs c t = some d → rt c = rt d) : uf_n pn o = mm_gc o := by
  obtain ⟨i1, i2, i3, i4, i5, i6⟩ := I
  have clo : ∀ c d, c < 64 → mm_re o c d → rt c = rt d := fun c d hc q => q (fun x => rt c = rt x) rfl (fun x t x' hx ht e1 e2 e3 => e1.trans (hcl x t x' hx ht e2 e3))
  have fsi : ∀ c, mm_fs o c = true ↔ (o c).isSome = true ∧ ∀ d, d < c → mm_re o d c → (o d).isSome = false := fun c => by unfold mm_fs; rw [Bool.and_eq_true, mz_dc_iff]
  have ef : ∀ x, ∃ c, mm_re o x c ∧ ∀ d, d < c → ¬ mm_re o x d := fun x => by
    obtain ⟨c, a, _, b⟩ := mz_least (P := fun c => mm_re o x c) _ mm_re_0
    exact ⟨c, a, b⟩
  unfold uf_n mm_gc
  refine mz_bij (fun x => Classical.choose (ef x)) rt (fun x hx e => ?_) (fun x y hx hy e1 e2 q => ?_) (fun c hc e => ?_) (fun c d hc hd e1 e2 q => ?_)
  · rw [Bool.and_eq_true, beq_iff_eq] at e
    obtain ⟨a, b⟩ := Classical.choose_spec (ef x)
    exact ⟨mm_re_64 hx a, (fsi _).mpr ⟨mm_re_oc e.1 a, fun d hd rr => absurd (mm_re_t a (mm_re_sym rr)) (b d hd)⟩⟩
  · rw [Bool.and_eq_true, beq_iff_eq] at e1 e2
    have r1 := (Classical.choose_spec (ef x)).1
    have r2 := (Classical.choose_spec (ef y)).1
    have q' : Classical.choose (ef x) = Classical.choose (ef y) := q
    rw [q'] at r1
    have := clo x y hx (mm_re_t r1 (mm_re_sym r2))
    rw [i3 x hx e1.2, i3 y hy e2.2] at this
    exact this
  · obtain ⟨a1, a2⟩ := (fsi c).mp e
    exact ⟨(i2 c hc).1, by rw [Bool.and_eq_true, beq_iff_eq]; exact ⟨mm_re_oc a1 (i6 c hc), (i2 c hc).2.1⟩⟩
  · obtain ⟨a1, a2⟩ := (fsi c).mp e1
    obtain ⟨b1, b2⟩ := (fsi d).mp e2
    have q' : rt c = rt d := q
    have r1 := i6 c hc
    rw [q'] at r1
    have r := mm_re_t r1 (mm_re_sym (i6 d hd))
    by_cases z : c < d
    · have := b2 c z r
      rw [a1] at this; cases this
    · by_cases z2 : d < c
      · have := a2 d z2 (mm_re_sym r)
        rw [b1] at this; cases this
      · omega
end GU
section GV
variable {xs : List Int32} {h : jx_H} {a r : Nat} {M : mm_T}
theorem mm_oc_n (HC : mm_C M) : mz_su (fun k => (fg_on (M.2.2.1 k)).toNat) M.1 = mz_su (fun c => (M.2.2.2 c).isSome.toNat) 64 := by
  have eg : ∀ c, ∃ k, c < 64 → (M.2.2.2 c).isSome = true → k < M.1 ∧ fg_on (M.2.2.1 k) = true ∧ mm_cl (M.2.2.1 k) = c := fun c => by
    by_cases hc : c < 64 ∧ (M.2.2.2 c).isSome = true
    · obtain ⟨f, e⟩ := Option.isSome_iff_exists.mp hc.2
      obtain ⟨k, a1, a2, a3, a4⟩ := HC.2.1 c f hc.1 e
      exact ⟨k, fun _ _ => ⟨a1, by rw [a2]; exact a3, by rw [a2]; exact a4⟩⟩
    · exact ⟨0, fun h1 h2 => absurd ⟨h1, h2⟩ hc⟩
  refine mz_bij (fun k => mm_cl (M.2.2.1 k)) (fun c => Classical.choose (eg c)) (fun k hk e => ?_) (fun k j hk hj e1 e2 q => HC.2.2 k j hk hj e1 e2 q) (fun c hc e => ?_) (fun c d hc hd e1 e2 q => ?_)
  · obtain ⟨c1, c2⟩ := HC.1 k hk e
    exact ⟨c1, by show (M.2.2.2 (mm_cl (M.2.2.1 k))).isSome = true; rw [c2]; rfl⟩
  · have := Classical.choose_spec (eg c) hc e
    exact ⟨this.1, this.2.1⟩
  · have r1 := (Classical.choose_spec (eg c) hc e1).2.2
    have r2 := (Classical.choose_spec (eg d) hd e2).2.2
    have q' : Classical.choose (eg c) = Classical.choose (eg d) := q
    rw [q', r2] at r1
    exact r1.symm
theorem m_28 (K : mz_K xs h) (R : bd_R h a M) (G : gu_V h r) (hd : a + 43 ≤ r ∨ r + 3 ≤ a) : ∃ h', jx_A 28 [.ref r, .ref a] h = some (.inl (some (.int (nI (mm_gc M.2.2.2)))), h') ∧ gu_V h' r ∧ mz_eq r (r + 3) h h' := by
  have HC := bd_R_C R
  obtain ⟨p, A, g, H, W, hF, ho⟩ := id R
  have hn := bd_n20 H
  have nr : jx_nc ≤ r := by obtain ⟨_, _, G⟩ := G; exact G.2.2.2
  obtain ⟨qu, pa, G⟩ := G
  have un : ∀ pn, uf_n pn (bd_o A g) = uf_n pn M.2.2.2 := fun pn => mz_su_cong (fun c hc => by rw [ho c hc])
  rw [a_28]
  -- each cell by itself
  have key1 : ∀ (R' : jx_R → Prop) (v3 v4 : Value), (∀ u, gu_I u r qu (fun c => nI c) → mz_eq r (r + 3) h u → R' (jx_E 28 28 [.ref r, .ref a, .int (nI (uf_n (fun c => c) (bd_o A g))), .int (nI 0), v4] [] u)) → R' (jx_E 28 2 [.ref r, .ref a, .int 0, v3, v4] [] h) := by
    intro R' v3 v4 hR
    refine mz_inv (γ := jx_H) (fun i u => jx_E 28 2 [.ref r, .ref a, .int (nI i), v3, v4] [] u) (fun i u => ∃ pa', gu_I u r qu pa' ∧ (∀ c, c < i → pa' c = nI c) ∧ mz_eq r (r + 3) h u) 64 R' ?_ ?_ 0 h (by decide) ⟨pa, G, fun c hc => by omega, mz_eq_rf⟩
    · rintro u ⟨pa', Gu, hp, tu⟩
      have Hu := bd_eq H tu hd
      have G2 : gu_I u r qu (fun c => nI c) := by
        obtain ⟨g1, g2, g3, g4⟩ := Gu
        refine ⟨g1, g2, ?_, g4⟩
        rw [g3]
        congr 2
        exact mz_ar_cong (fun c hc => by rw [hp c hc])
      have e : mz_su (fun k => (fg_on (A (p k))).toNat) M.1 = uf_n (fun c => c) (bd_o A g) := by
        rw [mz_su_cong (g := fun k => (fg_on (M.2.2.1 k)).toNat) (fun k hk => by rw [hF k hk]), mm_oc_n HC, un]
        unfold uf_n
        exact mz_su_cong (fun c _ => by rw [beq_self_eq_true, Bool.and_true])
      show R' (jx_E 28 2 _ _ _)
      rw [b_28_2, if_pos (by decide), bd_is Hu, jx_cI_e (m_4 Hu), e]
      exact hR u G2 tu
    · rintro i u hi ⟨pa', Gu, hp, tu⟩
      obtain ⟨u2, x2, G2, s2⟩ := gu_pp Gu hi (nI i)
      refine Or.inr ⟨u2, ⟨_, G2, fun c hc => ?_, mz_eq_tr tu s2⟩, ?_⟩
      · by_cases z : c = i
        · subst z; rw [mz_up_s]
        · rw [mz_up_n z]; exact hp c (by omega)
      · show jx_E 28 2 _ _ _ = jx_E 28 2 _ _ _
        rw [b_28_2, if_neg (show ¬ (64 : Int32) ≤ nI i from nI_ge hi (by decide)), gu_1 Gu, x2, nI_1]
  refine key1 (fun X => ∃ h', X = some (.inl (some (.int (nI (mm_gc M.2.2.2)))), h') ∧ gu_V h' r ∧ mz_eq r (r + 3) h h') jx_j jx_j (fun u Gu tu => ?_)
  refine mz_inv (γ := jx_H × Nat × Value) (fun i z => jx_E 28 28 [.ref r, .ref a, .int (nI z.2.1), .int (nI i), z.2.2] [] z.1)
    (fun i z => ∃ pn rt ht U, gu_I z.1 r qu (fun c => nI (pn c)) ∧ uf_I pn (bd_o A g) U rt ht ∧ U ≤ 2 * i ∧ z.2.1 = uf_n pn (bd_o A g) ∧ (∀ j t d, j < i → fg_on (M.2.2.1 j) = true → (t = 1 ∨ t = 2) → mm_ct (bd_o A g) (mm_cl (M.2.2.1 j)) t = 1 → mz_bs (mm_cl (M.2.2.1 j)) t = some d → rt (mm_cl (M.2.2.1 j)) = rt d) ∧ mz_eq r (r + 3) h z.1) M.1
    (fun X => ∃ h', X = some (.inl (some (.int (nI (mm_gc M.2.2.2)))), h') ∧ gu_V h' r ∧ mz_eq r (r + 3) h h') ?_ ?_ 0 (u, uf_n (fun c => c) (bd_o A g), jx_j) (Nat.zero_le _)
    ⟨fun c => c, fun c => c, fun _ => 0, 0, Gu, ⟨fun c hc => hc, fun c hc => ⟨hc, rfl, rfl⟩, fun c _ _ => rfl, fun c _ q => absurd rfl q, fun c _ => Nat.le_refl _, fun c _ => mm_re_0⟩, by omega, rfl, fun j t d hj => absurd hj (Nat.not_lt_zero _), tu⟩
  · rintro ⟨w, sets, v⟩ ⟨pn, rt, ht, U, Gw, I, hU, es, cl, tw⟩
    dsimp only at Gw es tw
    have Hw := bd_eq H tw hd
    refine ⟨w, ?_, ⟨qu, _, Gw⟩, tw⟩
    show jx_E 28 28 _ _ _ = _
    rw [b_28_28, bd_n Hw, if_pos (nI_le (Nat.le_refl _) (by omega)), es]
    have cl2 : ∀ c t d, c < 64 → (t = 1 ∨ t = 2) → mm_ct (bd_o A g) c t = 1 → mz_bs c t = some d → rt c = rt d := fun c t d hc ht e1 e2 => by
      obtain ⟨f, d', f', b1, b2, b3⟩ := mm_ct_nb (o := bd_o A g) (c := c) (s := t) (by rw [e1]; decide)
      rw [ho c hc] at b1
      obtain ⟨k, a1, a2, a3, a4⟩ := HC.2.1 c f hc b1
      have := cl k t d a1 (by rw [a2]; exact a3) ht
      rw [a2, a4] at this
      exact this e1 e2
    rw [uf_gc I (fun c t d hc ht e1 e2 => by
      by_cases z : t = 1 ∨ t = 2
      · exact cl2 c t d hc z e1 e2
      · have hd64 := mz_bs64 hc ht e2
        exact (cl2 d ((t + 2) % 4) c hd64 (by omega) ((mm_ct_sym hc ht e2).trans e1) (mz_bs_opp hc ht e2)).symm)]
    have : mm_gc (bd_o A g) = mm_gc M.2.2.2 := by
      unfold mm_gc
      refine mz_su_cong (fun c hc => ?_)
      congr 1
      unfold mm_fs
      rw [ho c hc]
      congr 1
      rw [Bool.eq_iff_iff, mz_dc_iff, mz_dc_iff]
      exact ⟨fun q d hd' rr => by rw [← ho d (by omega)]; exact q d hd' (mm_re_cong (fun c hc => (ho c hc).symm) rr), fun q d hd' rr => by rw [ho d (by omega)]; exact q d hd' (mm_re_cong ho rr)⟩
    rw [this]
  · rintro i ⟨w, sets, v⟩ hi ⟨pn, rt, ht, U, Gw, I, hU, es, cl, tw⟩
    dsimp only at Gw es tw
    have Hw := bd_eq H tw hd
    have Kw := mz_K_eq K tw nr
    have hp := bd_p H hi
    refine Or.inr ?_
    cases eo : fg_on (M.2.2.1 i) with
    | false =>
      refine ⟨(w, sets, .ref (bd_f a (p i))), ⟨pn, rt, ht, U, Gw, I, by omega, es, fun j t d hj oj => ?_, tw⟩, ?_⟩
      · by_cases z : j = i
        · subst z; rw [eo] at oj; cases oj
        · exact cl j t d (by omega) oj
      · show jx_E 28 28 _ _ _ = jx_E 28 28 _ _ _
        rw [b_28_28, bd_n Hw, if_neg (nI_ge hi (by omega)), bd_fr Hw, bd_at Hw (by omega), bd_fis Hw hp, jx_cI_e (m_21 Hw hp), hF i hi, eo, if_pos (by decide), nI_1]
    | true =>
      obtain ⟨c1, c2⟩ := HC.1 i hi eo
      have ce : fg_ce (A (p i)) = mm_cl (M.2.2.1 i) + 1 := by
        rw [hF i hi]
        have := fg_on_1.mp eo
        unfold mm_cl
        omega
      have hgi := W.2.2 i _ hi ce
      obtain ⟨w1, pn1, rt1, ht1, r1, x1, G1, I1, m1, j1, n1, s1⟩ := m_29 Kw Hw W Gw hd I (by omega) c1 hgi (s := 1) (by decide)
      have H1 := bd_eq Hw s1 hd
      have K1 := mz_K_eq Kw s1 nr
      obtain ⟨w2, pn2, rt2, ht2, r2, x2, G2, I2, m2, j2, n2, s2⟩ := m_29 K1 H1 W G1 hd I1 (by omega) c1 hgi (s := 2) (by decide)
      refine ⟨(w2, uf_n pn2 (bd_o A g), .ref (bd_f a (p i))), ⟨pn2, rt2, ht2, _, G2, I2, by omega, rfl, fun j t d hj oj ht e1 e2 => ?_, mz_eq_tr tw (mz_eq_tr s1 s2)⟩, ?_⟩
      · by_cases z : j = i
        · subst z
          rcases ht with rfl | rfl
          · exact m2 _ _ (j1 d e1 e2)
          · exact j2 d e1 e2
        · exact m2 _ _ (m1 _ _ (cl j t d (by omega) oj ht e1 e2))
      · show jx_E 28 28 _ _ _ = jx_E 28 28 _ _ _
        rw [b_28_28, bd_n Hw, if_neg (nI_ge hi (by omega)), bd_fr Hw, bd_at Hw (by omega), bd_fis Hw hp, jx_cI_e (m_21 Hw hp), hF i hi, eo, if_neg (by decide), gu_is Gw, jx_cI_e (show jx_A 29 [.ref r, .ref a, .ref (bd_f a (p i)), .int 1] w = _ from x1), gu_is G1, jx_cI_e (show jx_A 29 [.ref r, .ref a, .ref (bd_f a (p i)), .int 2] w1 = _ from x2), nI_1, nI_add, es, show uf_n pn (bd_o A g) = (r1 + r2) + uf_n pn2 (bd_o A g) by omega, nI_sub]
end GV
section CL
variable {xs : List Int32} {h : jx_H} {C : cl_T}
theorem c_84 (K : mz_K xs h) (I : cl_I h C) : jx_A 84 [.ref 200] h = some (.inl (some (.int (nI (mz_su (fun c => (mm_gap C.1.2.2.2 c).toNat) 64)))), h) := by
  have I0 := I
  obtain ⟨nx, J⟩ := I
  rw [a_84, cl_is J, jx_cL_e (c_82 K I0), jx_cI_e (m_245 _ h)]
  refine congrArg (fun z => (some (.inl (some (.int (nI z))), h) : jx_R)) ?_
  exact mz_su_cong (fun c hc => by unfold mm_gm; rw [mb_mk _ hc])
theorem c_94 (K : mz_K xs h) (I : cl_I h C) : ∃ h', jx_A 94 [.ref 200] h = some (.inl (some (.int (nI (mm_gc C.1.2.2.2)))), h') ∧ cl_I h' C ∧ mz_eq 200 711 h h' := by
  obtain ⟨nx, J⟩ := I
  obtain ⟨h1, x1, G1, s1⟩ := m_26 (r := 680) K J.2.1 J.2.2.2.2.2.2.2.1 (by omega)
  have his : ∀ F, jx_is h 680 3 F = F := fun F => by obtain ⟨_, _, G⟩ := J.2.2.2.2.2.2.2.1; exact gu_is G F
  exact ⟨h1, by rw [a_94, cl_5 J, cl_0 J, his, jx_cI_e x1], ⟨nx, cl_J_u J G1 s1⟩, mz_eq_wd s1 (by omega) (by omega)⟩
theorem c_95 (K : mz_K xs h) (I : cl_I h C) : ∃ h', jx_A 95 [.ref 200] h = some (.inl (some (.int (nI (mm_gc C.1.2.2.2)))), h') ∧ cl_I h' C ∧ mz_eq 200 711 h h' := by
  obtain ⟨nx, J⟩ := I
  obtain ⟨h1, x1, G1, s1⟩ := m_28 (r := 680) K J.2.1 J.2.2.2.2.2.2.2.1 (by omega)
  have his : ∀ F, jx_is h 680 3 F = F := fun F => by obtain ⟨_, _, G⟩ := J.2.2.2.2.2.2.2.1; exact gu_is G F
  exact ⟨h1, by rw [a_95, cl_5 J, cl_0 J, his, jx_cI_e x1], ⟨nx, cl_J_u J G1 s1⟩, mz_eq_wd s1 (by omega) (by omega)⟩
theorem c_97 (K : mz_K xs h) (I : cl_I h C) (v : Int32) : cl_Q h C (jx_A 97 [.ref 200, .int v] h) (sp_gd C.1 v (fun _ c => .long (mm_gk C.1.2.2.2 c))) := by
  obtain ⟨nx, J⟩ := I
  obtain ⟨p, A, g, H, W, hF, ho⟩ := J.2.1
  obtain ⟨o, q, e⟩ := m_117 J H hF v
  have his : ∀ F, jx_is h 680 3 F = F := fun F => by obtain ⟨_, _, G⟩ := J.2.2.2.2.2.2.2.1; exact gu_is G F
  cases o with
  | none => exact cl_Q_h (o := .inr eNS) J ⟨none, q, rfl⟩ (by rw [a_97, cl_5 J, cl_0 J, cl_is J, jx_cA_x e]; rfl)
  | some k =>
    obtain ⟨q1, q2, q3⟩ := id q
    have ec : fg_ce (A (p k.1)) = k.2 + 1 := by rw [hF k.1 q1.1]; exact q2
    obtain ⟨h1, x1, G1, s1⟩ := m_25 (r := 680) K H W J.2.2.2.2.2.2.2.1 (by omega) q3 (W.2.2 k.1 k.2 q1.1 ec)
    rw [mm_gk_cong ho] at x1
    exact ⟨.inl (.long (mm_gk C.1.2.2.2 k.2)), h1, ⟨some k, q, rfl⟩, by rw [a_97, cl_5 J, cl_0 J, cl_is J, jx_cA_e (show jx_A 117 [.ref 200, .int v] h = some (.inl (some (.ref (bd_f 201 (p k.1)))), h) from e), his, jx_cL_e x1]; rfl, ⟨nx, cl_J_u J G1 s1⟩, mz_eq_wd s1 (by omega) (by omega)⟩
theorem c_96 (K : mz_K xs h) (I : cl_I h C) (v : Int32) : cl_Q h C (jx_A 96 [.ref 200, .int v] h) (sp_gd C.1 v (fun _ c => .int (nI (mm_gz C.1.2.2.2 c)))) := by
  obtain ⟨o, h1, ⟨t, q, rfl⟩, x1, I1, s1⟩ := c_97 K I v
  obtain ⟨nx, J⟩ := I
  cases t with
  | none => exact ⟨.inr eNS, h1, ⟨none, q, rfl⟩, by rw [a_96, cl_is J, jx_cL_x (show jx_A 97 [.ref 200, .int v] h = some (.inr eNS, jx_thr h1) from x1)]; rfl, I1, s1⟩
  | some k =>
    refine ⟨.inl (.int (nI (mm_gz C.1.2.2.2 k.2))), h1, ⟨some k, q, rfl⟩, ?_, I1, s1⟩
    rw [a_96, cl_is J, jx_cL_e (show jx_A 97 [.ref 200, .int v] h = some (.inl (some (.long (mm_gk C.1.2.2.2 k.2))), h1) from x1), jx_cI_e (m_245 _ h1)]
    refine congrArg (fun z => (some (.inl (some (.int (nI z))), h1) : jx_R)) ?_
    exact mz_su_cong (fun c hc => by unfold mm_gk; rw [mb_mk _ hc])
theorem c_98 (K : mz_K xs h) (I : cl_I h C) : ∃ v h', mm_lg C.1.2.2.2 v ∧ v ≤ 64 ∧ jx_A 98 [.ref 200] h = (if v = 0 then some (.inr eNS, jx_thr h') else some (.inl (some (.int (nI v))), h')) ∧ cl_I h' C ∧ mz_eq 200 711 h h' := by
  obtain ⟨nx, J⟩ := I
  obtain ⟨h1, v, lg, lv, x1, G1, s1⟩ := m_27 (r := 680) K J.2.1 J.2.2.2.2.2.2.2.1 (by omega)
  have his : ∀ F, jx_is h 680 3 F = F := fun F => by obtain ⟨_, _, G⟩ := J.2.2.2.2.2.2.2.1; exact gu_is G F
  refine ⟨v, h1, lg, lv, ?_, ⟨nx, cl_J_u J G1 s1⟩, mz_eq_wd s1 (by omega) (by omega)⟩
  rw [a_98, cl_5 J, cl_0 J, his, jx_cI_e x1]
  by_cases z : v = 0
  · subst z; rfl
  · rw [if_neg z, if_neg (nI_ne0 (by omega) (by omega))]
theorem c_102 (K : mz_K xs h) (I : cl_I h C) : ∃ h', jx_A 102 [.ref 200] h = some (.inl (some (.int 1)), h') ∧ cl_I h' C ∧ mz_eq 200 711 h h' := by
  obtain ⟨h1, x1, I1, s1⟩ := c_94 K I
  have K1 := mz_K_eq K s1 (by decide)
  obtain ⟨h2, x2, I2, s2⟩ := c_95 K1 I1
  refine ⟨h2, ?_, I2, mz_eq_tr s1 s2⟩
  have c82 := c_82 K I
  have c83 := c_83 I
  obtain ⟨nx, J⟩ := I
  obtain ⟨nx1, J1⟩ := I1
  rw [a_102, cl_is J, jx_cL_e c82, cl_is J, jx_cL_e c83, if_pos (lg_0.mpr rfl), cl_is J, jx_cI_e x1, cl_is J1, jx_cI_e x2, if_pos rfl]
end CL
end JX
