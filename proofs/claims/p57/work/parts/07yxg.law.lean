/-! The law on my machine. -/
section JX
/-- my machine answers true on every script -/
theorem lw_run {xs : List Int32} {h : jx_H} (hL : xs.length ≤ 4000) (K : mz_K xs h) (h2 : h.2 = (200, 0, 0)) : ∃ h', jx_A 188 [.ref 199] h = some (.inl (some (.int 1)), h') ∧ h'.2.2.1 ≤ 436000 ∧ h'.2.2.2 ≤ 5230000 := by
  obtain ⟨C, h1, e1, L1, D, K1, hx, z, n1, n2⟩ := l_168 K hL h2
  obtain ⟨h3, e3, L3, z3⟩ := l_179 L1 D
  obtain ⟨h5, e5, L5, z5⟩ := l_180 L3 D K1
  obtain ⟨h7, e7, L7, z7⟩ := l_181 L5 D
  obtain ⟨h9, e9, L9, z9⟩ := l_183 L7 D
  obtain ⟨h11, o, e11, L11, z11⟩ := l_185 L9 D K1
  obtain ⟨C', h13, e13, L13, z13⟩ := l_187 L11 hL z hx
  have Z := zz_tr (zz_tr (zz_tr (zz_tr (zz_tr z3 z5) z7) z9) z11) z13
  obtain ⟨-, ⟨k, a1, a2, a3⟩, a4⟩ := Z
  refine ⟨h13, ?_, by omega, by omega⟩
  rw [a_188, jx_cN_e e1, jx_cI_e e3, if_neg (by decide), jx_cI_e e5, if_neg (by decide), jx_cI_e e7, if_neg (by decide), jx_cI_e e9, if_neg (by decide), jx_cI_e e11, if_neg (by decide), jx_cI_e e13, if_neg (by decide)]
end JX
