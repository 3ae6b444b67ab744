/-! The other object removes. -/
section JX
/-- the places behind k go one down, its slot goes behind all -/
def mz_cy (p : Nat → Nat) (n k : Nat) : Nat → Nat := fun j => if j < k then p j else if j + 1 < n then p (j + 1) else if j + 1 = n then p k else p j
theorem mz_cy_l {p : Nat → Nat} {n k j : Nat} (h : j < k) : mz_cy p n k j = p j := if_pos h
theorem mz_cy_m {p : Nat → Nat} {n k j : Nat} (h : ¬ j < k) (h2 : j + 1 < n) : mz_cy p n k j = p (j + 1) := by unfold mz_cy; rw [if_neg h, if_pos h2]
theorem mz_cy_n {p : Nat → Nat} {n k j : Nat} (hk : k < n) (h : j + 1 = n) : mz_cy p n k j = p k := by unfold mz_cy; rw [if_neg (by omega), if_neg (by omega), if_pos h]
theorem mz_cy_o {p : Nat → Nat} {n k j : Nat} (hk : k < n) (h : n ≤ j) : mz_cy p n k j = p j := by unfold mz_cy; rw [if_neg (by omega), if_neg (by omega), if_neg (by omega)]
theorem mz_cy_key {p : Nat → Nat} {n k : Nat} (hk : k < n) (hn : n ≤ 20) (j : Nat) (hj : j < 20) : ∃ i, i < 20 ∧ mz_cy p n k j = p i ∧ ((j < k ∧ i = j) ∨ (k ≤ j ∧ j + 1 < n ∧ i = j + 1) ∨ (j + 1 = n ∧ i = k) ∨ (n ≤ j ∧ i = j)) := by
  by_cases a : j < k
  · exact ⟨j, hj, mz_cy_l a, Or.inl ⟨a, rfl⟩⟩
  · by_cases b : j + 1 < n
    · exact ⟨j + 1, by omega, mz_cy_m a b, Or.inr (Or.inl ⟨by omega, b, rfl⟩)⟩
    · by_cases c : j + 1 = n
      · exact ⟨k, by omega, mz_cy_n hk c, Or.inr (Or.inr (Or.inl ⟨c, rfl⟩))⟩
      · exact ⟨j, hj, mz_cy_o hk (by omega), Or.inr (Or.inr (Or.inr ⟨by omega, rfl⟩))⟩
theorem mz_cy_inj {p : Nat → Nat} {n k : Nat} (hk : k < n) (hn : n ≤ 20) (inj : ∀ j k, j < 20 → k < 20 → p j = p k → j = k) : ∀ i j, i < 20 → j < 20 → mz_cy p n k i = mz_cy p n k j → i = j := by
  intro i j hi hj e
  obtain ⟨i', a1, a2, a3⟩ := mz_cy_key (p := p) hk hn i hi
  obtain ⟨j', b1, b2, b3⟩ := mz_cy_key (p := p) hk hn j hj
  have := inj i' j' a1 b1 (by rw [← a2, ← b2, e])
  omega
theorem rq_del {S : Nat → Nat} {n nx : Nat} {p : Nat → Nat} {A : Nat → fg_T} {g : Nat → Option Nat} {k : Nat} (B : rq_B S n nx p A g) (hk : k < n) (hce : fg_ce (A (p k)) = 0) :
    rq_B (mz_wr S (1 + 8 * p k) (fun _ => 0) 8) (n - 1) nx (mz_cy p n k) A g := by
  obtain ⟨b1, b2, b3, b4, b5, b6, b7, W⟩ := B
  have pk := b7 k (by omega)
  have ne : ∀ j, j < 20 → j ≠ k → p j ≠ p k := fun j hj q e => q (W.1 j k hj (by omega) e)
  refine ⟨?_, fun j hj => ?_, fun j h1 h2 => ?_, fun c hc => ?_, by omega, b6, fun j hj => ?_, ⟨mz_cy_inj hk b5 W.1, fun c i hc e => ?_, fun j c hj e => ?_⟩⟩
  · rw [mz_wr_o (by omega)]; exact b1
  · obtain ⟨i, a1, a2, a3⟩ := mz_cy_key (p := p) hk b5 j (by omega)
    rw [a2]
    have := ne i a1 (by omega)
    refine ⟨(b2 i (by omega)).1, fun w hw => ?_⟩
    rw [mz_wr_o (by omega)]
    exact (b2 i (by omega)).2 w hw
  · obtain ⟨i, a1, a2, a3⟩ := mz_cy_key (p := p) hk b5 j h2
    rw [a2]
    by_cases z : i = k
    · subst z
      exact mz_wr_i (w := 0) (by decide)
    · have := ne i a1 z
      rw [mz_wr_o (by omega)]
      exact b3 i (by omega) a1
  · rw [mz_wr_o (by omega)]; exact b4 c hc
  · obtain ⟨i, a1, a2, -⟩ := mz_cy_key (p := p) hk b5 j hj
    rw [a2]; exact b7 i a1
  · obtain ⟨w1, j, hj, rfl⟩ := W.2.1 c i hc e
    have jk : j ≠ k := fun q => by subst q; omega
    refine ⟨w1, ?_⟩
    by_cases z : j < k
    · exact ⟨j, by omega, mz_cy_l z⟩
    · exact ⟨j - 1, by omega, by rw [mz_cy_m (by omega) (by omega), show j - 1 + 1 = j by omega]⟩
  · obtain ⟨i, a1, a2, a3⟩ := mz_cy_key (p := p) hk b5 j (by omega)
    rw [a2] at e ⊢
    exact W.2.2 i c (by omega) e
section RD
variable {h : jx_H} {y : Nat} {S : Nat → Nat} {R : ro_R} {M : mm_T}
theorem m_162 (I : ro_I h y S 0 R) (Q : ro_S S M) (O : mm_ok M) (v : Int32) : rd_C h y S R (jx_A 162 [.ref y, .int v] h) (ok_drop M v) (no_drop M v) cd_take := by
  obtain ⟨p, A, g, B, hF, ho⟩ := Q
  have J : rq_J h y (ro_fs y 0 R) S M.1 M.2.1 p A g := ⟨I.1, B⟩
  have hn := rq_n J
  have W := rq_W J
  obtain ⟨o, hf, e⟩ := m_144 J (rq_AU (mm_okA O hF)) v
  have hf' : mm_fd M v o := bd_fd_cong hF hf
  cases o with
  | none => exact rd_no I (k := 1) (e := -1) (Or.inl ⟨hf', rfl⟩) rfl (by rw [a_162, rq_is J, jx_cI_e e, if_neg (show ¬ (0 : Int32) ≤ -1 by decide), rq_is J])
  | some k =>
    have hk : k < M.1 := hf.1
    have pk := rq_p J (show k < 20 by omega)
    have E : jx_A 162 [.ref y, .int v] h = if bI (fg_on (A (p k))) = 0 then jx_E 162 32 [.ref y, .int v, .int (nI (p k)), .int 0] [] h else (jx_cI jx_A 138 [.ref y, .int 2] h (fun y6 h5 => some (.inl (some (.int y6)), h5))) := by
      rw [a_162, rq_is J, jx_cI_e e, if_pos (show (0 : Int32) ≤ nI (p k) from nI_pos' (by omega)), rq_is J, jx_cI_e (m_145 J hk), rq_is J]
    cases eo : fg_on (A (p k)) with
    | true =>
      refine rd_no I (k := 2) (e := -4) (Or.inr ⟨k, hf', by rw [← hF k hk]; exact eo, rfl⟩) rfl ?_
      rw [E, eo, if_neg (by decide)]
    | false =>
      have hce := fg_on_0.mp eo
      rw [E, eo, if_pos (show bI false = 0 from rfl)]
      have B1 := rq_del B hk hce
      refine mz_inv (γ := jx_H) (fun i u => jx_E 162 32 [.ref y, .int v, .int (nI (p k)), .int (nI i)] [] u) (fun i u => ro_I u y (mz_wr S (1 + 8 * p k) (fun _ => 0) i) 0 R ∧ mz_eq y (y + 8) h u) 8
        (fun X => rd_C h y S R X (ok_drop M v) (no_drop M v) cd_take) ?_ ?_ 0 h (by decide) ⟨by rw [mz_wr_0]; exact I, mz_eq_rf⟩
      · rintro u ⟨I1, t1⟩
        have J1 : rq_J u y (ro_fs y 0 R) _ (M.1 - 1) M.2.1 (mz_cy p M.1 k) A g := ⟨I1.1, B1⟩
        have m148 := m_148 J1 false
        rw [show mz_su (fun j => (bif false then !fg_on (A (mz_cy p M.1 k j)) else true).toNat) (M.1 - 1) = M.1 - 1 from mz_su_one _] at m148
        refine Or.inl ⟨nI (M.1 - 1), mm_drop M k, u, _, ⟨k, hf', by rw [← hF k hk]; exact eo, rfl, rfl⟩, ?_, I1, ⟨_, _, _, B1, fun j hj => ?_, ho⟩, t1⟩
        · rw [b_162_32, if_pos (by decide), ro_is I1, jx_cI_e (show jx_A 148 [.ref y, .int 0] u = _ from m148)]
        · have hj : j < M.1 - 1 := hj
          show A (mz_cy p M.1 k j) = mm_del M.2.2.1 k j
          unfold mm_del
          by_cases z : j < k
          · rw [mz_cy_l z, if_pos z, hF j (by omega)]
          · rw [mz_cy_m z (by omega), if_neg z, hF (j + 1) (by omega)]
      · rintro i u hi ⟨I1, t1⟩
        right
        obtain ⟨u2, x2, I2, t2⟩ := m_141w (l := fun _ => 0) I1 pk hi
        refine ⟨u2, ⟨I2, mz_eq_tr t1 t2⟩, ?_⟩
        have x2' : jx_A 141 [.ref y, .int (nI (p k)), .int (nI i), .int 0] u = some (.inl none, u2) := x2
        show jx_E 162 32 _ _ _ = jx_E 162 32 _ _ _
        rw [b_162_32, if_neg (show ¬ 8 ≤ nI i from nI_ge (b := 8) hi (by decide)), ro_is I1, jx_cV_e x2', nI_1]
end RD
end JX
