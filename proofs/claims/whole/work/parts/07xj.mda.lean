/-! The other object adds. -/
section JX
/-- a run of numbers written -/
def mz_wr (S : Nat → Nat) (b : Nat) (l : Nat → Nat) (m : Nat) : Nat → Nat := fun q => if b ≤ q ∧ q < b + m then l (q - b) else S q
theorem mz_wr_0 (S : Nat → Nat) (b : Nat) (l : Nat → Nat) : mz_wr S b l 0 = S := by
  funext q
  exact if_neg (by omega)
theorem mz_wr_s (S : Nat → Nat) (b : Nat) (l : Nat → Nat) (m : Nat) : mz_up (mz_wr S b l m) (b + m) (l m) = mz_wr S b l (m + 1) := by
  funext q
  unfold mz_up mz_wr
  by_cases c : q = b + m
  · subst c
    rw [if_pos rfl, if_pos ⟨by omega, by omega⟩, show b + m - b = m by omega]
  · rw [if_neg c]
    by_cases d : b ≤ q ∧ q < b + m
    · rw [if_pos d, if_pos ⟨d.1, by omega⟩]
    · rw [if_neg d, if_neg (by omega)]
theorem mz_wr_i {S : Nat → Nat} {b : Nat} {l : Nat → Nat} {m w : Nat} (h : w < m) : mz_wr S b l m (b + w) = l w := by
  unfold mz_wr
  rw [if_pos ⟨by omega, by omega⟩, show b + w - b = w by omega]
theorem mz_wr_o {S : Nat → Nat} {b : Nat} {l : Nat → Nat} {m q : Nat} (h : q < b ∨ b + m ≤ q) : mz_wr S b l m q = S q := by
  unfold mz_wr
  rw [if_neg (by omega)]
section RD
variable {h : jx_H} {y : Nat} {S : Nat → Nat} {R : ro_R} {M : mm_T}
theorem m_141w {u : jx_H} {th : Int32} {j m : Nat} {l : Nat → Nat} (J : ro_I u y (mz_wr S (1 + 8 * j) l m) th R) (hj : j < 20) (hm : m < 8) : ∃ u', jx_A 141 [.ref y, .int (nI j), .int (nI m), .int (nI (l m))] u = some (.inl none, u') ∧ ro_I u' y (mz_wr S (1 + 8 * j) l (m + 1)) th R ∧ mz_eq y (y + 8) u u' := by
  obtain ⟨u1, x1, I1, t1⟩ := m_141 J hj hm (l m)
  rw [mz_wr_s] at I1
  exact ⟨u1, x1, I1, t1⟩
/-- all numbers of a slot are written -/
theorem m_141x {u : jx_H} {th : Int32} {j : Nat} (l : Nat → Nat) (J : ro_I u y S th R) (hj : j < 20) (f : jx_H → jx_R) : ∃ u8, jx_cV jx_A 141 [.ref y, .int (nI j), .int (nI 0), .int (nI (l 0))] u (fun h5 => jx_is h5 y 8 (jx_cV jx_A 141 [.ref y, .int (nI j), .int (nI 1), .int (nI (l 1))] h5 (fun h6 => jx_is h6 y 8 (jx_cV jx_A 141 [.ref y, .int (nI j), .int (nI 2), .int (nI (l 2))] h6 (fun h7 => jx_is h7 y 8 (jx_cV jx_A 141 [.ref y, .int (nI j), .int (nI 3), .int (nI (l 3))] h7 (fun h8 => jx_is h8 y 8 (jx_cV jx_A 141 [.ref y, .int (nI j), .int (nI 4), .int (nI (l 4))] h8 (fun h9 => jx_is h9 y 8 (jx_cV jx_A 141 [.ref y, .int (nI j), .int (nI 5), .int (nI (l 5))] h9 (fun h10 => jx_is h10 y 8 (jx_cV jx_A 141 [.ref y, .int (nI j), .int (nI 6), .int (nI (l 6))] h10 (fun h11 => jx_is h11 y 8 (jx_cV jx_A 141 [.ref y, .int (nI j), .int (nI 7), .int (nI (l 7))] h11 f)))))))))))))) = f u8 ∧
    ro_I u8 y (mz_wr S (1 + 8 * j) l 8) th R ∧ mz_eq y (y + 8) u u8 := by
  have J0 : ro_I u y (mz_wr S (1 + 8 * j) l 0) th R := by rw [mz_wr_0]; exact J
  obtain ⟨u1, x1, J1, t1⟩ := m_141w J0 hj (by decide)
  obtain ⟨u2, x2, J2, t2⟩ := m_141w J1 hj (by decide)
  obtain ⟨u3, x3, J3, t3⟩ := m_141w J2 hj (by decide)
  obtain ⟨u4, x4, J4, t4⟩ := m_141w J3 hj (by decide)
  obtain ⟨u5, x5, J5, t5⟩ := m_141w J4 hj (by decide)
  obtain ⟨u6, x6, J6, t6⟩ := m_141w J5 hj (by decide)
  obtain ⟨u7, x7, J7, t7⟩ := m_141w J6 hj (by decide)
  obtain ⟨u8, x8, J8, t8⟩ := m_141w J7 hj (by decide)
  refine ⟨u8, ?_, J8, mz_eq_tr t1 (mz_eq_tr t2 (mz_eq_tr t3 (mz_eq_tr t4 (mz_eq_tr t5 (mz_eq_tr t6 (mz_eq_tr t7 t8))))))⟩
  rw [jx_cV_e x1, ro_is J1, jx_cV_e x2, ro_is J2, jx_cV_e x3, ro_is J3, jx_cV_e x4, ro_is J4, jx_cV_e x5, ro_is J5, jx_cV_e x6, ro_is J6, jx_cV_e x7, ro_is J7, jx_cV_e x8]
/-- two places of a permutation exchanged -/
def mz_xp (p : Nat → Nat) (n k : Nat) : Nat → Nat := fun j => if j = n then p k else if j = k then p n else p j
theorem mz_xp_n {p : Nat → Nat} {n k : Nat} : mz_xp p n k n = p k := if_pos rfl
theorem mz_xp_k {p : Nat → Nat} {n k : Nat} (h : k ≠ n) : mz_xp p n k k = p n := by unfold mz_xp; rw [if_neg h, if_pos rfl]
theorem mz_xp_o {p : Nat → Nat} {n k j : Nat} (h : j ≠ n) (h2 : j ≠ k) : mz_xp p n k j = p j := by unfold mz_xp; rw [if_neg h, if_neg h2]
theorem mz_xp_inj {p : Nat → Nat} {n k : Nat} (hn : n < 20) (hk : k < 20) (inj : ∀ j k, j < 20 → k < 20 → p j = p k → j = k) : ∀ i j, i < 20 → j < 20 → mz_xp p n k i = mz_xp p n k j → i = j := by
  intro i j hi hj e
  have key : ∀ i, i < 20 → ∃ i', i' < 20 ∧ mz_xp p n k i = p i' ∧ (i' = if i = n then k else if i = k then n else i) := fun i hi => by
    unfold mz_xp
    by_cases a : i = n
    · exact ⟨k, hk, by rw [if_pos a], by rw [if_pos a]⟩
    · by_cases b : i = k
      · exact ⟨n, hn, by rw [if_neg a, if_pos b], by rw [if_neg a, if_pos b]⟩
      · exact ⟨i, hi, by rw [if_neg a, if_neg b], by rw [if_neg a, if_neg b]⟩
  obtain ⟨i', a1, a2, a3⟩ := key i hi
  obtain ⟨j', b1, b2, b3⟩ := key j hj
  have := inj i' j' a1 b1 (by rw [← a2, ← b2, e])
  rw [a3, b3] at this
  split at this <;> split at this <;> (try split at this) <;> (try split at this) <;> omega
/-- a new fragment in a slot that was not used -/
theorem rq_add {n nx : Nat} {p : Nat → Nat} {A : Nat → fg_T} {g : Nat → Option Nat} {f : fg_T} {k : Nat} (B : rq_B S n nx p A g) (hn : n < 20) (hk : k < 20) (hnk : n ≤ k) (hf : fg_ok f) (hce : fg_ce f = 0) (hx : nx + 1 < 2 ^ 30) :
    rq_B (mz_up (mz_wr S (1 + 8 * p k) (fg_w f) 8) 0 (nx + 1)) (n + 1) (nx + 1) (mz_xp p n k) (mz_up A (p k) f) g := by
  obtain ⟨b1, b2, b3, b4, b5, b6, b7, W⟩ := B
  have ne : ∀ j, j < 20 → j ≠ k → p j ≠ p k := fun j hj q e => q (W.1 j k hj hk e)
  refine ⟨mz_up_s, fun j hj => ?_, fun j h1 h2 => ?_, fun c hc => ?_, hn, hx, fun j hj => ?_, ⟨mz_xp_inj hn hk W.1, fun c i hc e => ?_, fun j c hj e => ?_⟩⟩
  · by_cases c : j = n
    · subst c
      rw [mz_xp_n, mz_up_s]
      exact ⟨hf, fun w hw => by rw [mz_up_n (by omega)]; exact mz_wr_i hw⟩
    · have jn : j < n := by omega
      have := ne j (by omega) (by omega)
      rw [mz_xp_o c (by omega), mz_up_n this]
      refine ⟨(b2 j jn).1, fun w hw => ?_⟩
      rw [mz_up_n (by omega), mz_wr_o (by omega)]
      exact (b2 j jn).2 w hw
  · by_cases c : j = k
    · subst c
      have := ne n (by omega) (by omega)
      rw [mz_xp_k (by omega), mz_up_n (by omega), mz_wr_o (by omega)]
      exact b3 n (Nat.le_refl _) hn
    · have := ne j h2 c
      rw [mz_xp_o (by omega) c, mz_up_n (by omega), mz_wr_o (by omega)]
      exact b3 j (by omega) h2
  · have := b7 k hk
    rw [mz_up_n (by omega), mz_wr_o (by omega)]
    exact b4 c hc
  · unfold mz_xp
    split
    · exact b7 k hk
    · split
      · exact b7 n hn
      · exact b7 j hj
  · obtain ⟨w1, j, hj, rfl⟩ := W.2.1 c i hc e
    have := ne j (by omega) (by omega)
    rw [mz_up_n this]
    exact ⟨w1, j, by omega, mz_xp_o (by omega) (by omega)⟩
  · by_cases z : j = n
    · subst z
      rw [mz_xp_n, mz_up_s, hce] at e
      omega
    · have := ne j (by omega) (by omega)
      rw [mz_xp_o z (by omega), mz_up_n this] at e
      rw [mz_xp_o z (by omega)]
      exact W.2.2 j c (by omega) e
end RD
end JX
