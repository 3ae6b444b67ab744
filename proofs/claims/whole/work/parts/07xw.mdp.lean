/-! The other object's masks: patterns, groups, sizes. -/
section JX
theorem ib_sm : ∀ i, i < 32 → ((nI i &&& 31).toBitVec.smod 32) = BitVec.ofNat 32 i := by decide +kernel
theorem ib_shr {x : Int32} {i : Nat} (hi : i < 32) : (x >>> (nI i &&& 31)) &&& 1 = nI (ib x i).toNat := by
  apply Int32.toBitVec_inj.mp
  rw [Int32.toBitVec_and, Int32.toBitVec_shiftRight, ib_sm i hi]
  apply BitVec.eq_of_getLsbD_eq
  intro j hj
  rw [BitVec.getLsbD_and]
  have t : (BitVec.ofNat 32 i).toNat = i := by rw [BitVec.toNat_ofNat]; omega
  have one : (1 : Int32).toBitVec.getLsbD j = decide (j = 0) := by
    show (1#32).getLsbD j = _
    rw [BitVec.getLsbD_one]
    cases j <;> simp
  rw [one]
  by_cases z : j = 0
  · subst z
    rw [decide_eq_true rfl, Bool.and_true]
    show (x.toBitVec.sshiftRight (BitVec.ofNat 32 i).toNat).getLsbD 0 = _
    rw [t, BitVec.getLsbD_sshiftRight, if_pos (by omega)]
    unfold ib
    cases e : x.toBitVec.getLsbD i with
    | false => decide
    | true => decide
  · rw [decide_eq_false z, Bool.and_false]
    cases ib x i with
    | false =>
      show false = (0#32).getLsbD j
      simp
    | true =>
      show false = (1#32).getLsbD j
      rw [BitVec.getLsbD_one, decide_eq_false z, Bool.and_false]
theorem lb_sm : ∀ i, i < 64 → (((nI i).toInt64 &&& 63).toBitVec.smod 64) = BitVec.ofNat 64 i := by decide +kernel
theorem lb_shr {x : Int64} {i : Nat} (hi : i < 64) : (x >>> ((nI i).toInt64 &&& 63)) &&& 1 = bif mb x i then 1 else 0 := by
  apply Int64.toBitVec_inj.mp
  rw [Int64.toBitVec_and, Int64.toBitVec_shiftRight, lb_sm i hi]
  apply BitVec.eq_of_getLsbD_eq
  intro j hj
  rw [BitVec.getLsbD_and]
  have t : (BitVec.ofNat 64 i).toNat = i := by rw [BitVec.toNat_ofNat]; omega
  have one : (1 : Int64).toBitVec.getLsbD j = decide (j = 0) := by
    show (1#64).getLsbD j = _
    rw [BitVec.getLsbD_one]
    cases j <;> simp
  rw [one]
  by_cases z : j = 0
  · subst z
    rw [decide_eq_true rfl, Bool.and_true]
    show (x.toBitVec.sshiftRight (BitVec.ofNat 64 i).toNat).getLsbD 0 = _
    rw [t, BitVec.getLsbD_sshiftRight, if_pos (by omega)]
    unfold mb
    cases e : x.toBitVec.getLsbD i with
    | false => decide
    | true => decide
  · rw [decide_eq_false z, Bool.and_false]
    cases mb x i with
    | false =>
      show false = (0#64).getLsbD j
      simp
    | true =>
      show false = (1#64).getLsbD j
      rw [BitVec.getLsbD_one, decide_eq_false z, Bool.and_false]
theorem lb_i32 (b : Bool) : (bif b then (1 : Int64) else 0).toInt32 = nI b.toNat := by cases b <;> decide
theorem lg_b1 (b : Bool) : lg_cmp (bif b then (1 : Int64) else 0) 1 = 0 ↔ b = true := by cases b <;> decide
theorem lg_b0 (b : Bool) : lg_cmp (bif b then (1 : Int64) else 0) 0 = 0 ↔ b = false := by cases b <;> decide
theorem m_212 (x : Int64) (h : jx_H) : jx_A 212 [.long x] h = some (.inl (some (.int (nI (mz_su (fun c => (mb x c).toNat) 64)))), h) := by
  rw [a_212]
  refine mz_lp (fun i => jx_E 212 4 [.long x, jx_j, .int (nI (mz_su (fun c => (mb x c).toNat) i)), .int (nI i)] [] h) 64 _ ?_ ?_ 0 (by decide)
  · rw [b_212_4, if_pos (by decide)]
  · intro i hi
    show jx_E 212 4 _ _ _ = jx_E 212 4 [.long x, jx_j, .int (nI (mz_su (fun c => (mb x c).toNat) i + (mb x i).toNat)), .int (nI (i + 1))] [] h
    rw [b_212_4, if_neg (show ¬ 64 ≤ nI i from nI_ge (b := 64) hi (by decide)), lb_shr hi, lb_i32, nI_add, nI_1]
/-- a mask within what is reached, and what a sweep has added so far -/
def gx_I (o : Nat → Option fg_T) (c0 : Nat) (m : Int64) (i s : Nat) (x : Int64) : Prop :=
  (∀ d, d < 64 → mb m d = true → mb x d = true) ∧ (∀ d, d < 64 → mb x d = true → mm_re o c0 d) ∧ (∀ d t d', d < 64 → t < 4 → (d < i ∨ (d = i ∧ t < s)) → mb m d = true → mm_ct o d t = 1 → mz_bs d t = some d' → mb x d' = true)
section RD
variable {h : jx_H} {y : Nat} {S : Nat → Nat} {R : ro_R} {M : mm_T} {th : Int32} {fs : List Value} {n nx : Nat} {p : Nat → Nat} {A : Nat → fg_T} {g : Nat → Option Nat}
theorem gx_sweep (J : rq_J h y fs S n nx p A g) {c0 : Nat} (v1 : Int32) {m : Int64} (hm : ∀ d, d < 64 → mb m d = true → mm_re (bd_o A g) c0 d) (w7 : Value) :
    ∃ x w, gx_I (bd_o A g) c0 m 64 0 x ∧ jx_E 211 20 [.ref y, .int v1, .long m, jx_j, .long m, jx_j, .int 0, w7] [] h = jx_E 211 7 [.ref y, .int v1, .long x, jx_j, .long m, jx_j, .int 64, w] [] h := by
  refine mz_inv (γ := Int64 × Value) (fun i z => jx_E 211 20 [.ref y, .int v1, .long z.1, jx_j, .long m, jx_j, .int (nI i), z.2] [] h) (fun i z => gx_I (bd_o A g) c0 m i 0 z.1) 64 (fun X => ∃ x w, gx_I (bd_o A g) c0 m 64 0 x ∧ X = jx_E 211 7 [.ref y, .int v1, .long x, jx_j, .long m, jx_j, .int 64, w] [] h) ?_ ?_ 0 (m, w7) (by decide) ⟨fun d _ e => e, hm, fun d t d' _ _ q => (by omega)⟩
  · rintro ⟨x, w⟩ G
    refine ⟨x, w, G, ?_⟩
    dsimp only
    rw [b_211_20, if_pos (by decide)]; rfl
  · rintro i ⟨x, w⟩ hi G
    right
    have G : gx_I (bd_o A g) c0 m i 0 x := G
    have E : ∃ x' w', gx_I (bd_o A g) c0 m (i + 1) 0 x' ∧ jx_E 211 30 [.ref y, .int v1, .long x, jx_j, .long m, jx_j, .int (nI i), .int 0] [] h = jx_E 211 20 [.ref y, .int v1, .long x', jx_j, .long m, jx_j, .int (nI (i + 1)), w'] [] h := by
      refine mz_inv (γ := Int64) (fun s x => jx_E 211 30 [.ref y, .int v1, .long x, jx_j, .long m, jx_j, .int (nI i), .int (nI s)] [] h) (fun s x => gx_I (bd_o A g) c0 m i s x) 4 (fun X => ∃ x' w', gx_I (bd_o A g) c0 m (i + 1) 0 x' ∧ X = jx_E 211 20 [.ref y, .int v1, .long x', jx_j, .long m, jx_j, .int (nI (i + 1)), w'] [] h) ?_ ?_ 0 x (by decide) G
      · intro x G
        refine ⟨x, .int 4, ⟨G.1, G.2.1, fun d t d' hd ht q => G.2.2 d t d' hd ht (by omega)⟩, ?_⟩
        rw [b_211_30, if_pos (by decide), nI_1]; rfl
      · intro s x hs G
        have E : jx_E 211 30 [.ref y, .int v1, .long x, jx_j, .long m, jx_j, .int (nI i), .int (nI s)] [] h = if lg_cmp (bif mb x i then (1 : Int64) else 0) 1 = 0 then (if zC (mm_ct (bd_o A g) i s) = 1 then (jx_cI jx_A 151 [.int (nI i), .int (nI s)] h (fun y4 h3 => jx_E 211 30 [.ref y, .int v1, .long (x ||| (1 <<< (y4.toInt64 &&& 63))), jx_j, .long m, jx_j, .int (nI i), .int (nI s + 1)] [] h3)) else (jx_E 211 30 [.ref y, .int v1, .long (x ||| 0), jx_j, .long m, jx_j, .int (nI i), .int (nI s + 1)] [] h)) else (jx_E 211 20 [.ref y, .int v1, .long x, jx_j, .long m, jx_j, .int (nI i + 1), .int (nI s)] [] h) := by
          rw [b_211_30, if_neg (show ¬ 4 ≤ nI s from nI_ge (b := 4) hs (by decide)), lb_shr hi, rq_is J, jx_cI_e (m_155 J hi hs)]
        cases eb : mb x i with
        | false =>
          left
          refine ⟨x, .int (nI s), ⟨G.1, G.2.1, fun d t d' hd ht q e => ?_⟩, ?_⟩
          · by_cases z : d = i
            · subst z
              have := G.1 d hd e
              rw [eb] at this; cases this
            · exact G.2.2 d t d' hd ht (by omega) e
          · rw [E, eb, if_neg (fun q => absurd ((lg_b1 false).mp q) (by decide)), nI_1]
        | true =>
          right
          by_cases ct : mm_ct (bd_o A g) i s = 1
          · obtain ⟨d', hd'⟩ := mm_ct_bs (o := bd_o A g) (c := i) (s := s) (by rw [ct]; decide)
            have d64 := mz_bs64 hi hs hd'
            refine ⟨x ||| mz_bit d', ⟨fun d hd e => ?_, fun d hd e => ?_, fun d t d2 hd ht q e e1 e2 => ?_⟩, ?_⟩
            · rw [mb_or, G.1 d hd e]; rfl
            · rw [mb_or, mb_bit d64] at e
              cases e3 : mb x d with
              | true => exact G.2.1 d hd e3
              | false =>
                rw [e3, Bool.false_or, decide_eq_true_eq] at e
                subst e
                exact mm_re_s (G.2.1 i hi eb) hi hs ct hd'
            · rw [mb_or, mb_bit d64]
              by_cases z : d = i ∧ t = s
              · obtain ⟨rfl, rfl⟩ := z
                rw [hd'] at e2
                rw [Option.some.inj e2, decide_eq_true rfl, Bool.or_true]
              · rw [G.2.2 d t d2 hd ht (by omega) e e1 e2]; rfl
            · show jx_E 211 30 _ _ _ = jx_E 211 30 _ _ _
              rw [E, eb, if_pos ((lg_b1 true).mpr rfl), ct, if_pos (by decide), jx_cI_e (m_151 hi hs h), hd', nI_1]
              rfl
          · have le := mm_ct_le (bd_o A g) i s
            refine ⟨x, ⟨G.1, G.2.1, fun d t d2 hd ht q e e1 e2 => ?_⟩, ?_⟩
            · by_cases z : d = i ∧ t = s
              · obtain ⟨rfl, rfl⟩ := z
                exact absurd e1 ct
              · exact G.2.2 d t d2 hd ht (by omega) e e1 e2
            · show jx_E 211 30 _ _ _ = jx_E 211 30 _ _ _
              have nz : ¬ zC (mm_ct (bd_o A g) i s) = 1 := fun q => ct ((zC_K true le).mp q)
              rw [E, eb, if_pos ((lg_b1 true).mpr rfl), if_neg nz, nI_1, Int64_or0]
    obtain ⟨x', w', G', E'⟩ := E
    refine ⟨(x', w'), G', ?_⟩
    dsimp only
    rw [b_211_20, if_neg (show ¬ 64 ≤ nI i from nI_ge (b := 64) hi (by decide)), E']
theorem gx_run (J : rq_J h y fs S n nx p A g) {c0 : Nat} (h0 : c0 < 64) (v1 : Int32) : ∀ (f : Nat) (m old : Int64) (w6 w7 : Value), 64 ≤ mz_su (fun d => (mb m d).toNat) 64 + f → (∀ d, d < 64 → mb m d = true → mm_re (bd_o A g) c0 d) → mb m c0 = true → old ≠ m →
    jx_E 211 7 [.ref y, .int v1, .long m, jx_j, .long old, jx_j, w6, w7] [] h = some (.inl (some (.long (mm_gk (bd_o A g) c0))), h) := by
  intro f
  induction f with
  | zero => ?_
  | succ f ih => ?_
  all_goals
    intro m old w6 w7 hf hm hc ne
    obtain ⟨x, w, G, E⟩ := gx_sweep J v1 hm w7
    rw [b_211_7, if_neg (fun q => ne (lg_0.mp q)), E]
    by_cases z : m = x
    · subst z
      rw [b_211_7, if_pos (lg_0.mpr rfl)]
      refine congrArg (fun z => (some (.inl (some (.long z)), h) : jx_R)) ?_
      refine mz_mk_of (fun d hd => ?_)
      rw [Bool.eq_iff_iff, mm_gb_iff]
      refine ⟨fun e => hm d hd e, fun e => ?_⟩
      exact e (fun d => mb m d = true) hc (fun d t d' hd ht e e1 e2 => G.2.2 d t d' hd ht (Or.inl hd) e e1 e2)
    · have dif : ∃ d, d < 64 ∧ mb m d = false ∧ mb x d = true := by
        by_cases q : ∃ d, d < 64 ∧ mb m d = false ∧ mb x d = true
        · exact q
        · exfalso
          refine z (mb_ext fun d hd => ?_)
          cases e1 : mb m d with
          | true => rw [G.1 d hd e1]
          | false =>
            cases e2 : mb x d with
            | false => rfl
            | true => exact absurd ⟨d, hd, e1, e2⟩ q
      obtain ⟨d, hd, e1, e2⟩ := dif
      have lt := mz_su_lt (f := fun d => (mb m d).toNat) (g := fun d => (mb x d).toNat) (n := 64) (k := d) (fun j hj => by
        cases e : mb m j with
        | false => exact Nat.zero_le _
        | true => rw [G.1 j hj e]; exact Nat.le_refl _) hd (by rw [e1, e2]; decide)
      have le : mz_su (fun d => (mb x d).toNat) 64 ≤ 64 * 1 := mz_su_le (fun k _ => by cases mb x k <;> decide)
      first
        | exact ih x m _ _ (by omega) G.2.1 (G.1 c0 h0 hc) z
        | (exfalso; omega)
theorem m_211 (J : rq_J h y fs S n nx p A g) {c : Nat} (hc : c < 64) : jx_A 211 [.ref y, .int (nI c)] h = some (.inl (some (.long (mm_gk (bd_o A g) c))), h) := by
  rw [a_211]
  show jx_E 211 7 [.ref y, .int (nI c), .long (mz_bit c), jx_j, .long 0, jx_j, jx_j, jx_j] [] h = _
  refine gx_run J hc (nI c) 64 (mz_bit c) 0 jx_j jx_j (by omega) (fun d hd e => ?_) (by rw [mb_bit hc, decide_eq_true rfl]) (fun q => ?_)
  · rw [mb_bit hc, decide_eq_true_eq] at e
    subst e
    exact mm_re_0
  · have := congrArg (fun z => mb z c) q
    simp only [mb_0, mb_bit hc] at this
    simp at this
theorem mm_gz_b (o : Nat → Option fg_T) (c : Nat) : mz_su (fun d => (mb (mm_gk o c) d).toNat) 64 = mm_gz o c := mz_su_cong fun d hd => by
  unfold mm_gk
  rw [mb_mk _ hd]
theorem m_215 (I : ro_I h y S th R) (Q : ro_S S M) (O : mm_ok M) (v : Int32) : rd_Q h y S R (jx_A 215 [.ref y, .int v] h) (sp_gd M v (fun _ c => .int (nI (mm_gz M.2.2.2 c)))) ce_1 (.int 0) := by
  refine m_gd (Z := fun y2 h3 => jx_is h3 y 8 (jx_cI jx_A 140 [.ref y, .int y2, .int 7] h3 (fun y6 h5 => jx_is h5 y 8 (jx_cL jx_A 211 [.ref y, .int (y6 - 1)] h5 (fun y8 h7 => jx_cI jx_A 212 [.long y8] h7 (fun y10 h9 => some (.inl (some (.int y10)), h9))))))) I Q O v (fun y2 e => by rw [a_215, ro_is I, jx_cI_e e]) (fun h1 p A g k c I1 J hF ho hk hce hc => ?_)
  rw [rq_is J, jx_cI_e (m_140c J hk), hce, nI_pred, rq_is J, jx_cL_e (m_211 J hc), jx_cI_e (m_212 _ h1), mm_gk_cong ho, mm_gz_b]
theorem m_216 (I : ro_I h y S th R) (Q : ro_S S M) (O : mm_ok M) (v : Int32) : rd_Q h y S R (jx_A 216 [.ref y, .int v] h) (sp_gd M v (fun _ c => .long (mm_gk M.2.2.2 c))) ce_1 (.long 0) := by
  refine m_gd (Z := fun y2 h3 => jx_is h3 y 8 (jx_cI jx_A 140 [.ref y, .int y2, .int 7] h3 (fun y6 h5 => jx_is h5 y 8 (jx_cL jx_A 211 [.ref y, .int (y6 - 1)] h5 (fun y8 h7 => some (.inl (some (.long y8)), h7)))))) I Q O v (fun y2 e => by rw [a_216, ro_is I, jx_cI_e e]) (fun h1 p A g k c I1 J hF ho hk hce hc => ?_)
  rw [rq_is J, jx_cI_e (m_140c J hk), hce, nI_pred, rq_is J, jx_cL_e (m_211 J hc), mm_gk_cong ho]
theorem m_213 (I : ro_I h y S th R) (Q : ro_S S M) : rv_P h y S R (jx_A 213 [.ref y] h) (.int (nI (mm_gc M.2.2.2))) := by
  obtain ⟨p, A, g, B, hF, ho⟩ := Q
  obtain ⟨h1, x1, I1, t1⟩ := ro_pth I 0
  have J1 : rq_J h1 y (ro_fs y 0 R) S M.1 M.2.1 p A g := ⟨I1.1, B⟩
  refine ⟨h1, ?_, I1, t1⟩
  rw [a_213, x1]
  refine mz_inv (γ := Int64) (fun i m => jx_E 213 12 [.ref y, .long m, jx_j, .int (nI (mz_su (fun c => (mm_fs M.2.2.2 c).toNat) i)), .int (nI i)] [] h1) (fun i m => ∀ d, d < 64 → (mb m d = true ↔ ∃ c, c < i ∧ (M.2.2.2 c).isSome = true ∧ mm_re M.2.2.2 c d)) 64 (fun X => X = some (.inl (some (.int (nI (mm_gc M.2.2.2)))), h1)) ?_ ?_ 0 0 (by decide) (fun d _ => ⟨fun e => (by rw [mb_0] at e; cases e), fun ⟨c, hc, _⟩ => absurd hc (Nat.not_lt_zero _)⟩)
  · intro m _
    rw [b_213_12, if_pos (by decide)]; rfl
  · intro i m hi G
    right
    have fsd : mm_fs M.2.2.2 i = ((M.2.2.2 i).isSome && !mb m i) := by
      unfold mm_fs
      cases e : (M.2.2.2 i).isSome with
      | false => rfl
      | true =>
        rw [Bool.true_and, Bool.true_and]
        cases e2 : mb m i with
        | true =>
          obtain ⟨c, hc, c1, c2⟩ := (G i hi).mp e2
          refine mz_dc_f.mpr (fun q => ?_)
          have := q c hc c2
          rw [c1] at this; cases this
        | false =>
          refine mz_dc_iff.mpr (fun d hd r => ?_)
          cases e3 : (M.2.2.2 d).isSome with
          | false => rfl
          | true =>
            have := (G i hi).mpr ⟨d, hd, e3, r⟩
            rw [e2] at this; cases this
    have E : jx_E 213 12 [.ref y, .long m, jx_j, .int (nI (mz_su (fun c => (mm_fs M.2.2.2 c).toNat) i)), .int (nI i)] [] h1 = if nI (rq_g (g i)) ≤ 0 then (jx_E 213 12 [.ref y, .long m, jx_j, .int (nI (mz_su (fun c => (mm_fs M.2.2.2 c).toNat) i)), .int (nI (i + 1))] [] h1) else (if lg_cmp (bif mb m i then (1 : Int64) else 0) 0 = 0 then (jx_E 213 12 [.ref y, .long (m ||| mm_gk M.2.2.2 i), jx_j, .int (nI (mz_su (fun c => (mm_fs M.2.2.2 c).toNat) i + 1)), .int (nI (i + 1))] [] h1) else (jx_E 213 12 [.ref y, .long m, jx_j, .int (nI (mz_su (fun c => (mm_fs M.2.2.2 c).toNat) i)), .int (nI (i + 1))] [] h1)) := by
      rw [b_213_12, if_neg (show ¬ 64 ≤ nI i from nI_ge (b := 64) hi (by decide)), ro_0 I1, rq_c J1 hi, lb_shr hi, ro_is I1, jx_cL_e (m_211 J1 hi), mm_gk_cong ho, nI_1, nI_1]
    show ∃ g', _ ∧ jx_E 213 12 [.ref y, .long m, jx_j, .int (nI (mz_su (fun c => (mm_fs M.2.2.2 c).toNat) i)), .int (nI i)] [] h1 = jx_E 213 12 [.ref y, .long g', jx_j, .int (nI (mz_su (fun c => (mm_fs M.2.2.2 c).toNat) i + (mm_fs M.2.2.2 i).toNat)), .int (nI (i + 1))] [] h1
    rw [E, fsd]
    have oi := ho i hi
    unfold bd_o at oi
    cases eg : g i with
    | none =>
      rw [eg] at oi
      have oi : M.2.2.2 i = none := oi.symm
      refine ⟨m, fun d hd => ⟨fun e => ?_, fun ⟨c, hc, c1, c2⟩ => ?_⟩, ?_⟩
      · obtain ⟨c, hc, q⟩ := (G d hd).mp e
        exact ⟨c, by omega, q⟩
      · have ne : c ≠ i := fun q => by rw [q, oi] at c1; cases c1
        exact (G d hd).mpr ⟨c, by omega, c1, c2⟩
      · rw [if_pos (show nI (rq_g none) ≤ 0 by decide), oi]; rfl
    | some z =>
      obtain ⟨k, hk, rfl, -⟩ := rq_gs J1 hi eg
      have hn := rq_n J1
      have pk := rq_p J1 (show k < 20 by omega)
      rw [eg] at oi
      have oi : M.2.2.2 i = some (A (p k)) := oi.symm
      rw [if_neg (show ¬ nI (rq_g (some (p k))) ≤ 0 from (show ¬ nI (p k + 1) ≤ 0 from nI_nle (Nat.succ_pos _) (by omega))), oi]
      cases eb : mb m i with
      | false =>
        rw [if_pos ((lg_b0 false).mpr rfl)]
        refine ⟨m ||| mm_gk M.2.2.2 i, fun d hd => ?_, rfl⟩
        have gk : mb (mm_gk M.2.2.2 i) d = mm_gb M.2.2.2 i d := mb_mk _ hd
        rw [mb_or, gk, Bool.or_eq_true, mm_gb_iff, G d hd]
        constructor
        · rintro (⟨c, hc, q⟩ | q)
          · exact ⟨c, by omega, q⟩
          · exact ⟨i, Nat.lt_succ_self i, by rw [oi]; rfl, q⟩
        · rintro ⟨c, hc, c1, c2⟩
          by_cases z : c = i
          · subst z; exact Or.inr c2
          · exact Or.inl ⟨c, by omega, c1, c2⟩
      | true =>
        rw [if_neg (fun q => absurd ((lg_b0 true).mp q) (by decide))]
        refine ⟨m, fun d hd => ⟨fun e => ?_, fun ⟨c, hc, c1, c2⟩ => ?_⟩, rfl⟩
        · obtain ⟨c, hc, q⟩ := (G d hd).mp e
          exact ⟨c, by omega, q⟩
        · by_cases z : c = i
          · subst z
            obtain ⟨c', hc', d1, d2⟩ := (G c hi).mp eb
            exact (G d hd).mpr ⟨c', hc', d1, mm_re_t d2 c2⟩
          · exact (G d hd).mpr ⟨c, by omega, c1, c2⟩
theorem m_214 (I : ro_I h y S th R) (Q : ro_S S M) : rv_P h y S R (jx_A 214 [.ref y] h) (.int (nI (mm_gc M.2.2.2))) := by
  obtain ⟨h1, x1, I1, t1⟩ := m_213 I Q
  exact ⟨h1, by rw [a_214, ro_is I, jx_cI_e x1], I1, t1⟩
end RD
end JX
