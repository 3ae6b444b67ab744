/-! The other object adds. -/
section JX
/-- a run of numbers written -/
def mz_wr (S : Nat → Nat) (b : Nat) (l : Nat → Nat) (m : Nat) : Nat → Nat := fun q => if b ≤ q ∧ q < b + m then l (q - b) else S q
theorem mz_wr_0 (S : Nat → Nat) (b : Nat) (l : Nat → Nat) : mz_wr S b l 0 = S := by
  funext q
  exact if_neg (by omega)
theorem mz_wr_s (S : Nat → Nat) (b : Nat) (l : Nat → Nat) (m : Nat) : mz_up (mz_wr S b l m) (b + m) (l m) = mz_wr S b l (m + 1) := by
  funext q
  unfold mz_up mz_wr
  by_cases c : q = b + m
  · subst c
    rw [if_pos rfl, if_pos ⟨by omega, by omega⟩, show b + m - b = m by omega]
  · rw [if_neg c]
    by_cases d : b ≤ q ∧ q < b + m
    · rw [if_pos d, if_pos ⟨d.1, by omega⟩]
    · rw [if_neg d, if_neg (by omega)]
theorem mz_wr_i {S : Nat → Nat} {b : Nat} {l : Nat → Nat} {m w : Nat} (h : w < m) : mz_wr S b l m (b + w) = l w := by
  unfold mz_wr
  rw [if_pos ⟨by omega, by omega⟩, show b + w - b = w by omega]
theorem mz_wr_o {S : Nat → Nat} {b : Nat} {l : Nat → Nat} {m q : Nat} (h : q < b ∨ b + m ≤ q) : mz_wr S b l m q = S q := by
  unfold mz_wr
  rw [if_neg (by omega)]
theorem mz_su_one : ∀ n, mz_su (fun _ => 1) n = n
  | 0 => rfl
  | n + 1 => by show mz_su (fun _ => 1) n + 1 = _; rw [mz_su_one n]
section RD
variable {h : jx_H} {y : Nat} {S : Nat → Nat} {R : ro_R} {M : mm_T}
theorem m_141w {u : jx_H} {th : Int32} {j m : Nat} {l : Nat → Nat} (J : ro_I u y (mz_wr S (1 + 8 * j) l m) th R) (hj : j < 20) (hm : m < 8) : ∃ u', jx_A 141 [.ref y, .int (nI j), .int (nI m), .int (nI (l m))] u = some (.inl none, u') ∧ ro_I u' y (mz_wr S (1 + 8 * j) l (m + 1)) th R ∧ mz_eq y (y + 8) u u' := by
  obtain ⟨u1, x1, I1, t1⟩ := m_141 J hj hm (l m)
  rw [mz_wr_s] at I1
  exact ⟨u1, x1, I1, t1⟩
/-- all numbers of a slot are written -/
theorem m_141x {u : jx_H} {th : Int32} {j : Nat} (l : Nat → Nat) (J : ro_I u y S th R) (hj : j < 20) (f : jx_H → jx_R) : ∃ u8, jx_cV jx_A 141 [.ref y, .int (nI j), .int (nI 0), .int (nI (l 0))] u (fun h5 => jx_is h5 y 8 (jx_cV jx_A 141 [.ref y, .int (nI j), .int (nI 1), .int (nI (l 1))] h5 (fun h6 => jx_is h6 y 8 (jx_cV jx_A 141 [.ref y, .int (nI j), .int (nI 2), .int (nI (l 2))] h6 (fun h7 => jx_is h7 y 8 (jx_cV jx_A 141 [.ref y, .int (nI j), .int (nI 3), .int (nI (l 3))] h7 (fun h8 => jx_is h8 y 8 (jx_cV jx_A 141 [.ref y, .int (nI j), .int (nI 4), .int (nI (l 4))] h8 (fun h9 => jx_is h9 y 8 (jx_cV jx_A 141 [.ref y, .int (nI j), .int (nI 5), .int (nI (l 5))] h9 (fun h10 => jx_is h10 y 8 (jx_cV jx_A 141 [.ref y, .int (nI j), .int (nI 6), .int (nI (l 6))] h10 (fun h11 => jx_is h11 y 8 (jx_cV jx_A 141 [.ref y, .int (nI j), .int (nI 7), .int (nI (l 7))] h11 f)))))))))))))) = f u8 ∧
    ro_I u8 y (mz_wr S (1 + 8 * j) l 8) th R ∧ mz_eq y (y + 8) u u8 := by
  have J0 : ro_I u y (mz_wr S (1 + 8 * j) l 0) th R := by rw [mz_wr_0]; exact J
  obtain ⟨u1, x1, J1, t1⟩ := m_141w J0 hj (by decide)
  obtain ⟨u2, x2, J2, t2⟩ := m_141w J1 hj (by decide)
  obtain ⟨u3, x3, J3, t3⟩ := m_141w J2 hj (by decide)
  obtain ⟨u4, x4, J4, t4⟩ := m_141w J3 hj (by decide)
  obtain ⟨u5, x5, J5, t5⟩ := m_141w J4 hj (by decide)
  obtain ⟨u6, x6, J6, t6⟩ := m_141w J5 hj (by decide)
  obtain ⟨u7, x7, J7, t7⟩ := m_141w J6 hj (by decide)
  obtain ⟨u8, x8, J8, t8⟩ := m_141w J7 hj (by decide)
  refine ⟨u8, ?_, J8, mz_eq_tr t1 (mz_eq_tr t2 (mz_eq_tr t3 (mz_eq_tr t4 (mz_eq_tr t5 (mz_eq_tr t6 (mz_eq_tr t7 t8))))))⟩
  rw [jx_cV_e x1, ro_is J1, jx_cV_e x2, ro_is J2, jx_cV_e x3, ro_is J3, jx_cV_e x4, ro_is J4, jx_cV_e x5, ro_is J5, jx_cV_e x6, ro_is J6, jx_cV_e x7, ro_is J7, jx_cV_e x8]
/-- two places of a permutation exchanged -/
def mz_xp (p : Nat → Nat) (n k : Nat) : Nat → Nat := fun j => if j = n then p k else if j = k then p n else p j
theorem mz_xp_n {p : Nat → Nat} {n k : Nat} : mz_xp p n k n = p k := if_pos rfl
theorem mz_xp_k {p : Nat → Nat} {n k : Nat} (h : k ≠ n) : mz_xp p n k k = p n := by unfold mz_xp; rw [if_neg h, if_pos rfl]
theorem mz_xp_o {p : Nat → Nat} {n k j : Nat} (h : j ≠ n) (h2 : j ≠ k) : mz_xp p n k j = p j := by unfold mz_xp; rw [if_neg h, if_neg h2]
theorem mz_xp_inj {p : Nat → Nat} {n k : Nat} (hn : n < 20) (hk : k < 20) (inj : ∀ j k, j < 20 → k < 20 → p j = p k → j = k) : ∀ i j, i < 20 → j < 20 → mz_xp p n k i = mz_xp p n k j → i = j := by
  intro i j hi hj e
  have key : ∀ i, i < 20 → ∃ i', i' < 20 ∧ mz_xp p n k i = p i' ∧ (i' = if i = n then k else if i = k then n else i) := fun i hi => by
    unfold mz_xp
    by_cases a : i = n
    · exact ⟨k, hk, by rw [if_pos a], by rw [if_pos a]⟩
    · by_cases b : i = k
      · exact ⟨n, hn, by rw [if_neg a, if_pos b], by rw [if_neg a, if_pos b]⟩
      · exact ⟨i, hi, by rw [if_neg a, if_neg b], by rw [if_neg a, if_neg b]⟩
  obtain ⟨i', a1, a2, a3⟩ := key i hi
  obtain ⟨j', b1, b2, b3⟩ := key j hj
  have := inj i' j' a1 b1 (by rw [← a2, ← b2, e])
  rw [a3, b3] at this
  split at this <;> split at this <;> (try split at this) <;> (try split at this) <;> omega
/-- a new fragment in a slot that was not used -/
theorem rq_add {n nx : Nat} {p : Nat → Nat} {A : Nat → fg_T} {g : Nat → Option Nat} {f : fg_T} {k : Nat} (B : rq_B S n nx p A g) (hn : n < 20) (hk : k < 20) (hnk : n ≤ k) (hf : fg_ok f) (hce : fg_ce f = 0) (hx : nx + 1 < 2 ^ 30) :
    rq_B (mz_up (mz_wr S (1 + 8 * p k) (fg_w f) 8) 0 (nx + 1)) (n + 1) (nx + 1) (mz_xp p n k) (mz_up A (p k) f) g := by
  obtain ⟨b1, b2, b3, b4, b5, b6, b7, W⟩ := B
  have ne : ∀ j, j < 20 → j ≠ k → p j ≠ p k := fun j hj q e => q (W.1 j k hj hk e)
  refine ⟨mz_up_s, fun j hj => ?_, fun j h1 h2 => ?_, fun c hc => ?_, hn, hx, fun j hj => ?_, ⟨mz_xp_inj hn hk W.1, fun c i hc e => ?_, fun j c hj e => ?_⟩⟩
  · by_cases c : j = n
    · subst c
      rw [mz_xp_n, mz_up_s]
      exact ⟨hf, fun w hw => by rw [mz_up_n (by omega)]; exact mz_wr_i hw⟩
    · have jn : j < n := by omega
      have := ne j (by omega) (by omega)
      rw [mz_xp_o c (by omega), mz_up_n this]
      refine ⟨(b2 j jn).1, fun w hw => ?_⟩
      rw [mz_up_n (by omega), mz_wr_o (by omega)]
      exact (b2 j jn).2 w hw
  · by_cases c : j = k
    · subst c
      have := ne n (by omega) (by omega)
      rw [mz_xp_k (by omega), mz_up_n (by omega), mz_wr_o (by omega)]
      exact b3 n (Nat.le_refl _) hn
    · have := ne j h2 c
      rw [mz_xp_o (by omega) c, mz_up_n (by omega), mz_wr_o (by omega)]
      exact b3 j (by omega) h2
  · have := b7 k hk
    rw [mz_up_n (by omega), mz_wr_o (by omega)]
    exact b4 c hc
  · unfold mz_xp
    split
    · exact b7 k hk
    · split
      · exact b7 n hn
      · exact b7 j hj
  · obtain ⟨w1, j, hj, rfl⟩ := W.2.1 c i hc e
    have := ne j (by omega) (by omega)
    rw [mz_up_n this]
    exact ⟨w1, j, by omega, mz_xp_o (by omega) (by omega)⟩
  · by_cases z : j = n
    · subst z
      rw [mz_xp_n, mz_up_s, hce] at e
      omega
    · have := ne j (by omega) (by omega)
      rw [mz_xp_o z (by omega), mz_up_n this] at e
      rw [mz_xp_o z (by omega)]
      exact W.2.2 j c (by omega) e
def cd_add (e : Int32) : Int32 := if e = -3 then 1 else 2
theorem m_150r (v : Int32) (h : jx_H) : (∃ j, 97 ≤ j ∧ j ≤ 102 ∧ v = nI j ∧ jx_A 150 [.int v] h = some (.inl (some (.int 1)), h)) ∨ ((∀ j, 97 ≤ j → j ≤ 102 → v ≠ nI j) ∧ jx_A 150 [.int v] h = some (.inl (some (.int 0)), h)) := by
  have e : jx_A 150 [.int v] h = jx_A 127 [.int v] h := by rw [m_150, m_127]
  rw [e]
  exact m_127r v h
theorem m_160 (I : ro_I h y S 0 R) (Q : ro_S S M) (hx : M.2.1 + 1 < 2 ^ 30) (c n e s w : Int32) : rd_C h y S R (jx_A 160 [.ref y, .int c, .int n, .int e, .int s, .int w] h) (ok_add M c n e s w) (no_add M c n e s w) cd_add := by
  obtain ⟨p, A, g, B, hF, ho⟩ := Q
  have J : rq_J h y (ro_fs y 0 R) S M.1 M.2.1 p A g := ⟨I.1, B⟩
  have hn := rq_n J
  have W := rq_W J
  -- a number out of bounds
  have bad : ∀ (s0 : Int32), s0 = 0 ∨ (∀ j, 97 ≤ j → j ≤ 102 → c ≠ nI j) → jx_E 160 47 [.ref y, .int c, .int n, .int e, .int s, .int w, jx_j, jx_j, jx_j] [.int s0] h = jx_cI jx_A 138 [.ref y, .int 1] h (fun y9 h8 => some (.inl (some (.int y9)), h8)) := by
    intro s0 q
    rw [b_160_47]
    rcases m_150r c h with ⟨j, h1, h2, rfl, x⟩ | ⟨ht, x⟩
    · rcases q with rfl | q
      · rw [jx_cI_e x, if_neg (by decide), if_pos rfl, rq_is J]
      · exact absurd rfl (q j h1 h2)
    · rw [jx_cI_e x, if_pos rfl, rq_is J]
  rcases m_135r n 15 (by decide) h with ⟨n', n1, rfl, q2⟩ | ⟨ht, q2⟩
  · rcases m_135r e 15 (by decide) h with ⟨e', e1, rfl, q3⟩ | ⟨ht, q3⟩
    · rcases m_135r s 15 (by decide) h with ⟨s', s1, rfl, q4⟩ | ⟨ht, q4⟩
      · rcases m_135r w 15 (by decide) h with ⟨w', w1, rfl, q5⟩ | ⟨ht, q5⟩
        · have E0 : jx_A 160 [.ref y, .int c, .int (nI n'), .int (nI e'), .int (nI s'), .int (nI w')] h = jx_E 160 47 [.ref y, .int c, .int (nI n'), .int (nI e'), .int (nI s'), .int (nI w'), jx_j, jx_j, jx_j] [.int 1] h := by
            rw [a_160, jx_cI_e (show jx_A 135 [.int (nI n'), .int 0, .int 15] h = _ from q2), if_neg (by decide), jx_cI_e (show jx_A 135 [.int (nI e'), .int 0, .int 15] h = _ from q3), if_neg (by decide), jx_cI_e (show jx_A 135 [.int (nI s'), .int 0, .int 15] h = _ from q4), if_neg (by decide), jx_cI_e (show jx_A 135 [.int (nI w'), .int 0, .int 15] h = _ from q5), if_neg (by decide)]
          rcases m_150r c h with ⟨c', c1, c2, rfl, x⟩ | ⟨ht, x⟩
          · have m148 := m_148 J false
            rw [show mz_su (fun k => (bif false then !fg_on (A (p k)) else true).toNat) M.1 = M.1 from mz_su_one M.1] at m148
            have E1 : jx_A 160 [.ref y, .int (nI c'), .int (nI n'), .int (nI e'), .int (nI s'), .int (nI w')] h = if nI M.1 = 20 then (jx_cI jx_A 138 [.ref y, .int 2] h (fun y8 h7 => some (.inl (some (.int y8)), h7))) else (jx_E 160 86 [.ref y, .int (nI c'), .int (nI n'), .int (nI e'), .int (nI s'), .int (nI w'), .int 1, .int 0, jx_j] [] h) := by
              rw [E0, b_160_47, jx_cI_e x, if_neg (by decide), if_neg (by decide), rq_is J, jx_cI_e (show jx_A 148 [.ref y, .int 0] h = _ from m148), rq_is J]
            by_cases hm : M.1 = 20
            · refine rd_no I (k := 2) (e := -4) (Or.inr ⟨⟨c', c1, c2, rfl⟩, ⟨n', n1, rfl⟩, ⟨e', e1, rfl⟩, ⟨s', s1, rfl⟩, ⟨w', w1, rfl⟩, hm, rfl⟩) rfl ?_
              rw [E1, if_pos (by rw [hm]; decide)]
            · have hm2 : M.1 < 20 := by omega
              rw [E1, if_neg (show ¬ nI M.1 = 20 from fun q => hm ((nI_eq (b := 20) (by omega) (by decide)).mp q))]
              refine mz_inv (γ := Unit) (fun i _ => jx_E 160 86 [.ref y, .int (nI c'), .int (nI n'), .int (nI e'), .int (nI s'), .int (nI w'), .int 1, .int (nI i), jx_j] [] h) (fun i _ => ∀ k, k < 20 → p k < i → k < M.1) 20
                (fun X => rd_C h y S R X (ok_add M (nI c') (nI n') (nI e') (nI s') (nI w')) (no_add M (nI c') (nI n') (nI e') (nI s') (nI w')) cd_add) ?_ ?_ 0 () (by decide) (fun k _ q => absurd q (Nat.not_lt_zero _))
              · intro _ q
                exact absurd (q M.1 hm2 (rq_p J hm2)) (Nat.lt_irrefl _)
              · intro i _ hi q
                obtain ⟨k, hk, rfl⟩ := mz_surj (fun k hk => rq_p J hk) W.1 hi
                by_cases hkn : k < M.1
                · right
                  refine ⟨(), fun j hj hp => ?_, ?_⟩
                  · by_cases z : j = k
                    · subst z; exact hkn
                    · have : p j ≠ p k := fun q => z (W.1 j k hj hk q)
                      exact q j hj (by omega)
                  · show jx_E 160 86 _ _ _ = jx_E 160 86 _ _ _
                    rw [b_160_86, rq_is J, jx_cI_e (m_142 J hk), show Nat.blt k M.1 = true from Nat.blt_eq.mpr hkn, if_neg (by decide), nI_1]
                · left
                  have nx0 : S 0 = M.2.1 := B.1
                  obtain ⟨u8, x8, I8, t8⟩ := m_141x (fg_w (M.2.1, c', n', e', s', w', 0, 0)) I (rq_p J hk) (fun h12 => jx_gA h12 y 8 0 (fun a13 => jx_lI h12 a13 100 0 (fun x14 => jx_st h12 a13 100 0 (.int (x14 + 1)) (fun h15 => some (.inl (some (.int (nI M.2.1))), h15)))))
                  have z0 : mz_wr S (1 + 8 * p k) (fg_w (M.2.1, c', n', e', s', w', 0, 0)) 8 0 = M.2.1 := by rw [mz_wr_o (by omega)]; exact nx0
                  obtain ⟨u9, x9, I9, t9⟩ := ro_ps I8 (k := 0) (by decide) (M.2.1 + 1)
                  have fok : fg_ok (M.2.1, c', n', e', s', w', 0, 0) := fg_ok_ed ⟨by show M.2.1 < _; omega, by show c' < _; omega, fun k hk => by
                    match k, hk with
                    | 0, _ => show n' < 16; omega
                    | 1, _ => show e' < 16; omega
                    | 2, _ => show s' < 16; omega
                    | 3, _ => show w' < 16; omega, by show 0 < 4; decide, by show 0 ≤ 64; decide⟩
                  have B9 := rq_add (k := k) B hm2 hk (by omega) fok rfl hx
                  refine Or.inl ⟨_, mm_add M c' n' e' s' w', u9, _, ⟨c', n', e', s', w', ⟨rfl, c1, c2⟩, ⟨rfl, n1⟩, ⟨rfl, e1⟩, ⟨rfl, s1⟩, ⟨rfl, w1⟩, hm2, rfl, rfl⟩, ?_, I9, ⟨_, _, _, B9, fun j hj => ?_, fun d hd => ?_⟩, mz_eq_tr t8 t9⟩
                  · show jx_E 160 86 _ _ _ = _
                    rw [b_160_86, rq_is J, jx_cI_e (m_142 J hk), show Nat.blt k M.1 = false from by rw [Bool.eq_false_iff]; intro w; exact hkn (Nat.blt_eq.mp w), if_pos (show bI false = 0 from rfl), rq_0 J, show (0 : Int32) = nI 0 from rfl, rq_l J (by decide), nx0, rq_is J, nI_1]
                    refine x8.trans ?_
                    rw [ro_0 I8, show (0 : Int32) = nI 0 from rfl, mz_lI I8.1.2.1 (by decide) (by decide) rfl, z0, nI_1, x9]
                  · have hj : j < M.1 + 1 := hj
                    show mz_up A (p k) _ (mz_xp p M.1 k j) = mz_up M.2.2.1 M.1 _ j
                    by_cases z : j = M.1
                    · subst z; rw [mz_xp_n, mz_up_s, mz_up_s]
                    · rw [mz_xp_o z (by omega), mz_up_n z, mz_up_n (fun q => (by have := W.1 j k (by omega) hk q; omega)), hF j (by omega)]
                  · show bd_o (mz_up A (p k) _) g d = M.2.2.2 d
                    rw [← ho d hd]
                    unfold bd_o
                    cases eg : g d with
                    | none => rfl
                    | some i =>
                      obtain ⟨j, hj, rfl, -⟩ := rq_gs J hd eg
                      show some _ = some _
                      rw [mz_up_n (fun q => (by have := W.1 j k (by omega) hk q; omega))]
          · exact rd_no I (k := 1) (e := -3) (Or.inl ⟨Or.inl ht, rfl⟩) rfl (by rw [E0, bad 1 (Or.inr ht)])
        · exact rd_no I (k := 1) (e := -3) (Or.inl ⟨Or.inr (Or.inr (Or.inr (Or.inr ht))), rfl⟩) rfl (by rw [a_160, jx_cI_e (show jx_A 135 [.int (nI n'), .int 0, .int 15] h = _ from q2), if_neg (by decide), jx_cI_e (show jx_A 135 [.int (nI e'), .int 0, .int 15] h = _ from q3), if_neg (by decide), jx_cI_e (show jx_A 135 [.int (nI s'), .int 0, .int 15] h = _ from q4), if_neg (by decide), jx_cI_e (show jx_A 135 [.int w, .int 0, .int 15] h = _ from q5), if_pos rfl, bad 0 (Or.inl rfl)])
      · exact rd_no I (k := 1) (e := -3) (Or.inl ⟨Or.inr (Or.inr (Or.inr (Or.inl ht))), rfl⟩) rfl (by rw [a_160, jx_cI_e (show jx_A 135 [.int (nI n'), .int 0, .int 15] h = _ from q2), if_neg (by decide), jx_cI_e (show jx_A 135 [.int (nI e'), .int 0, .int 15] h = _ from q3), if_neg (by decide), jx_cI_e (show jx_A 135 [.int s, .int 0, .int 15] h = _ from q4), if_pos rfl, bad 0 (Or.inl rfl)])
    · exact rd_no I (k := 1) (e := -3) (Or.inl ⟨Or.inr (Or.inr (Or.inl ht)), rfl⟩) rfl (by rw [a_160, jx_cI_e (show jx_A 135 [.int (nI n'), .int 0, .int 15] h = _ from q2), if_neg (by decide), jx_cI_e (show jx_A 135 [.int e, .int 0, .int 15] h = _ from q3), if_pos rfl, bad 0 (Or.inl rfl)])
  · exact rd_no I (k := 1) (e := -3) (Or.inl ⟨Or.inr (Or.inl ht), rfl⟩) rfl (by rw [a_160, jx_cI_e (show jx_A 135 [.int n, .int 0, .int 15] h = _ from q2), if_pos rfl, bad 0 (Or.inl rfl)])
end RD
end JX
