/-! The board's changes: contracts. -/
section JX
/-- a change of the board at a, or a refusal -/
def bd_C (h : jx_H) (a : Nat) (X : jx_R) (ok : Int32 → mm_T → Prop) (no : Int32 → Prop) : Prop :=
  ∃ r, (∃ M' h', ok r M' ∧ X = some (.inl (some (.int r)), h') ∧ bd_R h' a M' ∧ mz_eq a (a + 43) h h') ∨ (no r ∧ X = some (.inl (some (.int r)), h))
section BD
variable {xs : List Int32} {h : jx_H} {a : Nat} {M : mm_T}
theorem bd_R_rp {h1 : jx_H} {p : Nat → Nat} {A : Nat → fg_T} {g : Nat → Option Nat} {k : Nat} {f : fg_T} (H1 : bd_I h1 a M.1 M.2.1 p (mz_up A (p k) f) g) (W : bd_W M.1 p A g) (hF : ∀ k, k < M.1 → A (p k) = M.2.2.1 k) (ho : ∀ c, c < 64 → bd_o A g c = M.2.2.2 c) (hk : k < M.1) (e : fg_ce f = fg_ce (M.2.2.1 k)) : bd_R h1 a (mm_rp M k f) := by
  have hn := bd_n20 H1
  refine ⟨p, _, g, H1, bd_W_ce W (fun i => ?_), bd_F_up W hn hF hk, fun c hc => ?_⟩
  · unfold mz_up
    split
    · rename_i q; subst q; rw [hF k hk]; exact e
    · rfl
  · unfold mm_rp
    show _ = (match fg_ce (M.2.2.1 k) with | 0 => M.2.2.2 | d + 1 => mz_up M.2.2.2 d (some f)) c
    cases ec : fg_ce (M.2.2.1 k) with
    | zero => rw [bd_o_off W (by rw [hF k hk]; exact ec) hc]; exact ho c hc
    | succ d =>
      rw [bd_o_on W hk (by rw [hF k hk]; exact ec) hc]
      show _ = mz_up M.2.2.2 d (some f) c
      unfold mz_up
      rw [ho c hc]
theorem m_11 (R : bd_R h a M) (v t : Int32) : bd_C h a (jx_A 11 [.ref a, .int v, .int t] h) (ok_turn M v t) (no_turn M v t) := by
  obtain ⟨p, A, g, H, W, hF, ho⟩ := R
  obtain ⟨o, hfd, e3⟩ := m_3 H v
  have hfd' : mm_fd M v o := bd_fd_cong hF hfd
  cases o with
  | none => exact ⟨-1, Or.inr ⟨Or.inl ⟨hfd', rfl⟩, by rw [a_11, bd_is H, jx_cN_n e3]⟩⟩
  | some k =>
    have hk : k < M.1 := hfd.1
    have hp := bd_p H hk
    have e3' : jx_A 3 [.ref a, .int v] h = some (.inl (some (.ref (bd_f a (p k)))), h) := e3
    rcases m_126r t 3 (by decide) h with ⟨t', ht, rfl, q⟩ | ⟨ht, q⟩
    · obtain ⟨h1, w1, H1, s1⟩ := bd_ptn H hp (v := t') (by omega)
      rw [hF k hk] at H1
      refine ⟨_, Or.inl ⟨_, h1, ⟨k, t', hfd', rfl, ht, rfl, rfl⟩, ?_, bd_R_rp H1 W hF ho hk rfl, s1⟩⟩
      rw [a_11, bd_is H, jx_cN_e e3', jx_cI_e (show jx_A 126 [.int (nI t'), .int 3] h = _ from q), if_neg (by decide), bd_ftn H hp, w1, hF k hk]
    · refine ⟨-3, Or.inr ⟨Or.inr ⟨k, hfd', ht, rfl⟩, ?_⟩⟩
      rw [a_11, bd_is H, jx_cN_e e3', jx_cI_e (show jx_A 126 [.int t, .int 3] h = _ from q), if_pos rfl]
theorem mz_8 (i j : Nat) : (8 : Int32) * nI i + nI j = nI (8 * i + j) := by
  rw [← nI_add]
  congr 1
  exact (Int32.ofNat_mul 8 i).symm
theorem fg_on_0 {f : fg_T} : fg_on f = false ↔ fg_ce f = 0 := by unfold fg_on; simp
theorem fg_on_1 {f : fg_T} : fg_on f = true ↔ fg_ce f ≠ 0 := by unfold fg_on; simp
theorem m_8 (K : mz_K xs h) (R : bd_R h a M) (v y x : Int32) : bd_C h a (jx_A 8 [.ref a, .int v, .int y, .int x] h) (ok_put M v y x) (no_put M v y x) := by
  obtain ⟨p, A, g, H, W, hF, ho⟩ := R
  obtain ⟨o, hfd, e3⟩ := m_3 H v
  have hfd' : mm_fd M v o := bd_fd_cong hF hfd
  have hn := bd_n20 H
  cases o with
  | none => exact ⟨-1, Or.inr ⟨Or.inl ⟨hfd', rfl⟩, by rw [a_8, bd_is H, jx_cN_n e3]⟩⟩
  | some k =>
    have hk : k < M.1 := hfd.1
    have hp := bd_p H hk
    have e3' : jx_A 3 [.ref a, .int v] h = some (.inl (some (.ref (bd_f a (p k)))), h) := e3
    rcases m_126r y 7 (by decide) h with ⟨i, hi, rfl, q⟩ | ⟨ht, q⟩
    · rcases m_126r x 7 (by decide) h with ⟨j, hj, rfl, q2⟩ | ⟨ht, q2⟩
      · have E0 : jx_A 8 [.ref a, .int v, .int (nI i), .int (nI j)] h = if bI (fg_on (A (p k))) = 0 then (match g (8 * i + j) with | some _ => some (.inl (some (.int (-4))), h) | none => jx_cV jx_A 9 [.ref a, .ref (bd_f a (p k)), .int (nI (8 * i + j))] h (fun h11 => jx_is h11 a 0 (jx_cI jx_A 17 [.ref a, .ref (bd_f a (p k)), .int 1] h11 (fun y13 h12 => some (.inl (some (.int y13)), h12))))) else some (.inl (some (.int (-4))), h) := by
          rw [a_8, bd_is H, jx_cN_e e3', jx_cI_e (show jx_A 126 [.int (nI i), .int 7] h = _ from q), if_neg (by decide), jx_cI_e (show jx_A 126 [.int (nI j), .int 7] h = _ from q2), if_neg (by decide), bd_fis H hp, jx_cI_e (m_21 H hp), bd_gr H, mz_8, bd_ce H (by omega), bd_is H]
          cases g (8 * i + j) <;> rfl
        cases eo : fg_on (A (p k)) with
        | true =>
          refine ⟨-4, Or.inr ⟨Or.inr ⟨k, hfd', Or.inr ⟨i, j, rfl, hi, rfl, hj, Or.inl (by rw [← hF k hk]; exact eo), rfl⟩⟩, ?_⟩⟩
          rw [E0, eo, if_neg (by decide)]
        | false =>
          have hce := fg_on_0.mp eo
          cases eg : g (8 * i + j) with
          | some z =>
            refine ⟨-4, Or.inr ⟨Or.inr ⟨k, hfd', Or.inr ⟨i, j, rfl, hi, rfl, hj, Or.inr (by rw [← ho _ (by omega)]; unfold bd_o; rw [eg]; rfl), rfl⟩⟩, ?_⟩⟩
            rw [E0, eo, if_pos (by decide), eg]
          | none =>
            obtain ⟨h1, w1, H1, s1⟩ := m_9 H hp (c := 8 * i + j) (by omega)
            have W1 := bd_W_put W hk hn hce eg
            have K1 := mz_K_eq K s1 (bd_nc H)
            have q3 := m_17 K1 H1 (c := 8 * i + j) (i := p k) (by omega) (by rw [mz_up_s]) (by rw [mz_up_s]; rfl) true
            have hoo : ∀ c, c < 64 → bd_o (mz_up A (p k) (fg_sce (A (p k)) (8 * i + j + 1))) (mz_up g (8 * i + j) (some (p k))) c = (mm_put M k (8 * i + j)).2.2.2 c := fun c hc => by
              rw [bd_o_put W hce hc, hF k hk]
              show _ = mz_up M.2.2.2 _ _ c
              unfold mz_up
              rw [ho c hc]
            refine ⟨_, Or.inl ⟨mm_put M k (8 * i + j), h1, ⟨k, i, j, hfd', rfl, hi, rfl, hj, by rw [← hF k hk]; exact eo, by rw [← ho _ (by omega)]; unfold bd_o; rw [eg]; rfl, rfl, rfl⟩, ?_, ⟨p, _, _, H1, W1, ?_, hoo⟩, s1⟩⟩
            · rw [E0, eo, if_pos (by decide), eg]
              show jx_cV jx_A 9 _ h _ = _
              rw [jx_cV_e w1, bd_is H1, jx_cI_e (show jx_A 17 [.ref a, .ref (bd_f a (p k)), .int 1] h1 = _ from q3), mm_ms_cong hoo (by omega)]
              rfl
            · rw [hF k hk]
              exact bd_F_up W hn hF hk
      · refine ⟨-2, Or.inr ⟨Or.inr ⟨k, hfd', Or.inl ⟨Or.inr ht, rfl⟩⟩, ?_⟩⟩
        rw [a_8, bd_is H, jx_cN_e e3', jx_cI_e (show jx_A 126 [.int (nI i), .int 7] h = _ from q), if_neg (by decide), jx_cI_e (show jx_A 126 [.int x, .int 7] h = _ from q2), if_pos rfl]
    · refine ⟨-2, Or.inr ⟨Or.inr ⟨k, hfd', Or.inl ⟨Or.inl ht, rfl⟩⟩, ?_⟩⟩
      rw [a_8, bd_is H, jx_cN_e e3', jx_cI_e (show jx_A 126 [.int y, .int 7] h = _ from q), if_pos rfl]
theorem m_10 (K : mz_K xs h) (R : bd_R h a M) (v : Int32) : bd_C h a (jx_A 10 [.ref a, .int v] h) (ok_take M v) (no_take M v) := by
  obtain ⟨p, A, g, H, W, hF, ho⟩ := R
  obtain ⟨o, hfd, e3⟩ := m_3 H v
  have hfd' : mm_fd M v o := bd_fd_cong hF hfd
  have hn := bd_n20 H
  cases o with
  | none => exact ⟨-1, Or.inr ⟨Or.inl ⟨hfd', rfl⟩, by rw [a_10, bd_is H, jx_cN_n e3]⟩⟩
  | some k =>
    have hk : k < M.1 := hfd.1
    have hp := bd_p H hk
    have e3' : jx_A 3 [.ref a, .int v] h = some (.inl (some (.ref (bd_f a (p k)))), h) := e3
    cases ec : fg_ce (A (p k)) with
    | zero =>
      refine ⟨-4, Or.inr ⟨Or.inr ⟨k, hfd', by rw [← hF k hk]; exact fg_on_0.mpr ec, rfl⟩, ?_⟩⟩
      rw [a_10, bd_is H, jx_cN_e e3', bd_fis H hp, jx_cI_e (m_21 H hp), fg_on_0.mpr ec, if_pos (by decide)]
    | succ c =>
      have hc : c < 64 := by have := (bd_ok H hp).2.2.2.2; omega
      have wg := W.2.2 k c hk ec
      have q3 := m_17 K H hc wg ec true
      obtain ⟨h1, w1, H1, s1⟩ := bd_pg H (c := c) (o := none) hc (fun i e => by cases e)
      obtain ⟨h2, w2, H2, s2⟩ := bd_pce H1 hp (v := 0) (by omega) (w := -1) (by decide)
      refine ⟨_, Or.inl ⟨mm_tk M k c, h2, ⟨k, c, hfd', hc, by rw [← hF k hk]; exact ec, rfl, rfl⟩, ?_, ⟨p, _, _, H2, bd_W_tk W hk hn ec hc, ?_, fun d hd => ?_⟩, mz_eq_tr s1 s2⟩⟩
      · rw [a_10, bd_is H, jx_cN_e e3', bd_fis H hp, jx_cI_e (m_21 H hp), fg_on_1.mpr (by rw [ec]; exact Nat.succ_ne_zero c), if_neg (by decide), bd_is H, jx_cI_e (show jx_A 17 [.ref a, .ref (bd_f a (p k)), .int 1] h = _ from q3), bd_gr H, bd_fce H hp, ec, mz_pred]
        rw [show (jx_st h (a + 2) 111 (nI c) Value.null) = (jx_st h (a + 2) 111 (nI c) (bd_v a none)) from rfl, w1, w2, mm_ms_cong ho hc]
        rfl
      · rw [hF k hk]; exact bd_F_up W hn hF hk
      · rw [bd_o_tk W ec hd]
        show _ = mz_up M.2.2.2 c none d
        unfold mz_up
        rw [ho d hd]
theorem bd_W_sw {n : Nat} {p : Nat → Nat} {A : Nat → fg_T} {g : Nat → Option Nat} {k l c d : Nat} {f1 f2 : fg_T} (W : bd_W n p A g) (hn : n ≤ 20) (hk : k < n) (hl : l < n) (hkl : k ≠ l) (ek : fg_ce (A (p k)) = c + 1) (el : fg_ce (A (p l)) = d + 1) (e1 : fg_ce f1 = d + 1) (e2 : fg_ce f2 = c + 1) :
    c ≠ d ∧ p k ≠ p l ∧ bd_W n p (mz_up (mz_up A (p k) f1) (p l) f2) (mz_up (mz_up g d (some (p k))) c (some (p l))) := by
  have hp : p k ≠ p l := fun z => hkl (W.1 k l (by omega) (by omega) z)
  have gc := W.2.2 k c hk ek
  have gd := W.2.2 l d hl el
  have hcd : c ≠ d := fun z => by subst z; rw [gc] at gd; exact hp (Option.some.inj gd)
  refine ⟨hcd, hp, W.1, fun x i hx e => ?_, fun j x hj e => ?_⟩
  · by_cases q : x = c
    · subst q
      rw [mz_up_s] at e
      cases e
      rw [mz_up_s]
      exact ⟨e2, l, hl, rfl⟩
    · rw [mz_up_n q] at e
      by_cases q2 : x = d
      · subst q2
        rw [mz_up_s] at e
        cases e
        rw [mz_up_n hp, mz_up_s]
        exact ⟨e1, k, hk, rfl⟩
      · rw [mz_up_n q2] at e
        have w := W.2.1 x i hx e
        rw [mz_up_n (fun z => by subst z; omega), mz_up_n (fun z => by subst z; omega)]
        exact w
  · by_cases q : j = l
    · subst q
      rw [mz_up_s, e2] at e
      have : c = x := Nat.succ.inj e
      subst this
      rw [mz_up_s]
    · have n1 : p j ≠ p l := fun z => q (W.1 j l (by omega) (by omega) z)
      rw [mz_up_n n1] at e
      by_cases q2 : j = k
      · subst q2
        rw [mz_up_s, e1] at e
        have : d = x := Nat.succ.inj e
        subst this
        rw [mz_up_n (fun z => hcd z.symm), mz_up_s]
      · have n2 : p j ≠ p k := fun z => q2 (W.1 j k (by omega) (by omega) z)
        rw [mz_up_n n2] at e
        have w := W.2.2 j x hj e
        rw [mz_up_n (fun z => by subst z; rw [gc] at w; exact n2 (Option.some.inj w).symm), mz_up_n (fun z => by subst z; rw [gd] at w; exact n1 (Option.some.inj w).symm)]
        exact w
theorem m_12 (K : mz_K xs h) (R : bd_R h a M) (v w : Int32) : bd_C h a (jx_A 12 [.ref a, .int v, .int w] h) (ok_swap M v w) (no_swap M v w) := by
  obtain ⟨p, A, g, H, W, hF, ho⟩ := R
  obtain ⟨o, hfd, e3⟩ := m_3 H v
  obtain ⟨o2, hfd2, e4⟩ := m_3 H w
  have hfd' : mm_fd M v o := bd_fd_cong hF hfd
  have hfd2' : mm_fd M w o2 := bd_fd_cong hF hfd2
  have hn := bd_n20 H
  cases o with
  | none =>
    refine ⟨-1, Or.inr ⟨Or.inl ⟨Or.inl hfd', rfl⟩, ?_⟩⟩
    rw [a_12, bd_is H, jx_cN_n e3, bd_is H]
    cases o2 with
    | none => rw [jx_cN_n e4]
    | some l => rw [jx_cN_e (show jx_A 3 [.ref a, .int w] h = some (.inl (some (.ref (bd_f a (p l)))), h) from e4)]
  | some k =>
    have hk : k < M.1 := hfd.1
    have hp := bd_p H hk
    have e3' : jx_A 3 [.ref a, .int v] h = some (.inl (some (.ref (bd_f a (p k)))), h) := e3
    cases o2 with
    | none => exact ⟨-1, Or.inr ⟨Or.inl ⟨Or.inr hfd2', rfl⟩, by rw [a_12, bd_is H, jx_cN_e e3', bd_is H, jx_cN_n e4]⟩⟩
    | some l =>
      have hl : l < M.1 := hfd2.1
      have hpl := bd_p H hl
      have e4' : jx_A 3 [.ref a, .int w] h = some (.inl (some (.ref (bd_f a (p l)))), h) := e4
      have hnc : jx_nc ≤ bd_f a (p k) ∧ jx_nc ≤ bd_f a (p l) := by have := bd_nc H; unfold bd_f; omega
      by_cases hkl : k = l
      · subst hkl
        exact ⟨-3, Or.inr ⟨Or.inr (Or.inl ⟨k, hfd', hfd2', rfl⟩), by rw [a_12, bd_is H, jx_cN_e e3', bd_is H, jx_cN_e e4', if_pos hnc, if_pos rfl]⟩⟩
      · have hpp : ¬ bd_f a (p k) = bd_f a (p l) := fun z => hkl (W.1 k l (by omega) (by omega) (bd_f_inj z))
        cases ek : fg_ce (A (p k)) with
        | zero =>
          refine ⟨-4, Or.inr ⟨Or.inr (Or.inr ⟨k, l, hfd', hfd2', hkl, Or.inl (by rw [← hF k hk]; exact fg_on_0.mpr ek), rfl⟩), ?_⟩⟩
          rw [a_12, bd_is H, jx_cN_e e3', bd_is H, jx_cN_e e4', if_pos hnc, if_neg hpp, bd_fis H hp, jx_cI_e (m_21 H hp), fg_on_0.mpr ek, if_pos (by decide)]
        | succ c =>
          cases el : fg_ce (A (p l)) with
          | zero =>
            refine ⟨-4, Or.inr ⟨Or.inr (Or.inr ⟨k, l, hfd', hfd2', hkl, Or.inr (by rw [← hF l hl]; exact fg_on_0.mpr el), rfl⟩), ?_⟩⟩
            rw [a_12, bd_is H, jx_cN_e e3', bd_is H, jx_cN_e e4', if_pos hnc, if_neg hpp, bd_fis H hp, jx_cI_e (m_21 H hp), fg_on_1.mpr (by rw [ek]; exact Nat.succ_ne_zero c), if_neg (by decide), bd_fis H hpl, jx_cI_e (m_21 H hpl), fg_on_0.mpr el, if_pos (by decide)]
          | succ d =>
            have hc : c < 64 := by have := (bd_ok H hp).2.2.2.2; omega
            have hd : d < 64 := by have := (bd_ok H hpl).2.2.2.2; omega
            obtain ⟨h1, w1, H1, s1⟩ := m_9 H hp (c := d) hd
            obtain ⟨h2, w2, H2, s2⟩ := m_9 H1 hpl (c := c) hc
            obtain ⟨hcd, hpne, W2⟩ := bd_W_sw (f1 := fg_sce (A (p k)) (d + 1)) (f2 := fg_sce (A (p l)) (c + 1)) W hn hk hl hkl ek el rfl rfl
            rw [mz_up_n (fun z => hpne z.symm)] at H2
            have K2 := mz_K_eq K (mz_eq_tr s1 s2) (bd_nc H)
            have q3 := m_18 K2 H2 W2 true
            have hoo : ∀ x, x < 64 → bd_o (mz_up (mz_up A (p k) (fg_sce (A (p k)) (d + 1))) (p l) (fg_sce (A (p l)) (c + 1))) (mz_up (mz_up g d (some (p k))) c (some (p l))) x = (mm_sw M k l c d).2.2.2 x := fun x hx => by
              show _ = mz_up (mz_up M.2.2.2 d _) c _ x
              by_cases q : x = c
              · subst q
                unfold bd_o
                rw [mz_up_s, mz_up_s, ← hF l hl]
                show some _ = _
                rw [mz_up_s]
              · rw [mz_up_n q]
                by_cases q2 : x = d
                · subst q2
                  unfold bd_o
                  rw [mz_up_n q, mz_up_s, mz_up_s, ← hF k hk]
                  show some _ = _
                  rw [mz_up_n hpne, mz_up_s]
                · rw [mz_up_n q2, ← ho x hx]
                  unfold bd_o
                  rw [mz_up_n q, mz_up_n q2]
                  cases eg : g x with
                  | none => rfl
                  | some i =>
                    have w := (W.2.1 x i hx eg).1
                    show some _ = some _
                    rw [mz_up_n (fun z => by subst z; omega), mz_up_n (fun z => by subst z; omega)]
            have hFF : ∀ j, j < M.1 → mz_up (mz_up A (p k) (fg_sce (A (p k)) (d + 1))) (p l) (fg_sce (A (p l)) (c + 1)) (p j) = (mm_sw M k l c d).2.2.1 j := fun j hj => by
              show _ = mz_up (mz_up M.2.2.1 k _) l _ j
              by_cases q : j = l
              · subst q; rw [mz_up_s, mz_up_s, hF j hj]
              · rw [mz_up_n q, mz_up_n (fun z => q (W.1 j l (by omega) (by omega) z))]
                by_cases q2 : j = k
                · subst q2; rw [mz_up_s, mz_up_s, hF j hj]
                · rw [mz_up_n q2, mz_up_n (fun z => q2 (W.1 j k (by omega) (by omega) z)), hF j hj]
            refine ⟨_, Or.inl ⟨mm_sw M k l c d, h2, ⟨k, l, c, d, hfd', hfd2', hkl, hc, hd, by rw [← hF k hk]; exact ek, by rw [← hF l hl]; exact el, rfl, rfl⟩, ?_, ⟨p, _, _, H2, W2, hFF, hoo⟩, mz_eq_tr s1 s2⟩⟩
            rw [a_12, bd_is H, jx_cN_e e3', bd_is H, jx_cN_e e4', if_pos hnc, if_neg hpp, bd_fis H hp, jx_cI_e (m_21 H hp), fg_on_1.mpr (by rw [ek]; exact Nat.succ_ne_zero c), if_neg (by decide), bd_fis H hpl, jx_cI_e (m_21 H hpl), fg_on_1.mpr (by rw [el]; exact Nat.succ_ne_zero d), if_neg (by decide), bd_fce H hp, ek, mz_pred, bd_fce H hpl, el, mz_pred, bd_is H, jx_cV_e w1, bd_is H1, jx_cV_e w2, bd_is H2, jx_cI_e (show jx_A 18 [.ref a, .int 1] h2 = _ from q3)]
            congr 4
            congr 2
            refine mz_su_cong (fun j hj => ?_)
            have hce := (bd_ok H2 (bd_p H2 hj)).2.2.2.2
            rw [mm_es_cong hoo hce, hFF j hj]
            rfl
end BD
end JX
