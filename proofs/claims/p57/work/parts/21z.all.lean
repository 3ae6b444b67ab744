section JS
theorem mk_330 : js_mokG 330 := fun pc => by
  have e : jx_lk (jx_P 330) pc = o_bad := by
    show jx_lk [] pc = o_bad
    unfold jx_lk
    rfl
  rw [e]
  exact kbadG
theorem js_B1 : ∀ k, k < 56 → plainName (js_y (133 + k)).cls = true ∧ (js_hp (133 + k)).contains 0 = false := by decide +kernel
theorem js_B2 : ∀ k, k < 31 → plainName (js_y (300 + k)).cls = true ∧ (js_hp (300 + k)).contains 0 = false := by decide +kernel
theorem js_B3 : ∀ k, k < 56 → js_mokG (133 + k)
  | 0, _ => mk_133
  | 1, _ => mk_134
  | 2, _ => mk_135
  | 3, _ => mk_136
  | 4, _ => mk_137
  | 5, _ => mk_138
  | 6, _ => mk_139
  | 7, _ => mk_140
  | 8, _ => mk_141
  | 9, _ => mk_142
  | 10, _ => mk_143
  | 11, _ => mk_144
  | 12, _ => mk_145
  | 13, _ => mk_146
  | 14, _ => mk_147
  | 15, _ => mk_148
  | 16, _ => mk_149
  | 17, _ => mk_150
  | 18, _ => mk_151
  | 19, _ => mk_152
  | 20, _ => mk_153
  | 21, _ => mk_154
  | 22, _ => mk_155
  | 23, _ => mk_156
  | 24, _ => mk_157
  | 25, _ => mk_158
  | 26, _ => mk_159
  | 27, _ => mk_160
  | 28, _ => mk_161
  | 29, _ => mk_162
  | 30, _ => mk_163
  | 31, _ => mk_164
  | 32, _ => mk_165
  | 33, _ => mk_166
  | 34, _ => mk_167
  | 35, _ => mk_168
  | 36, _ => mk_169
  | 37, _ => mk_170
  | 38, _ => mk_171
  | 39, _ => mk_172
  | 40, _ => mk_173
  | 41, _ => mk_174
  | 42, _ => mk_175
  | 43, _ => mk_176
  | 44, _ => mk_177
  | 45, _ => mk_178
  | 46, _ => mk_179
  | 47, _ => mk_180
  | 48, _ => mk_181
  | 49, _ => mk_182
  | 50, _ => mk_183
  | 51, _ => mk_184
  | 52, _ => mk_185
  | 53, _ => mk_186
  | 54, _ => mk_187
  | 55, _ => mk_188
  | k + 56, hk => absurd hk (by omega)
theorem js_B4 : ∀ k, k < 31 → js_mokG (300 + k)
  | 0, _ => mk_300
  | 1, _ => mk_301
  | 2, _ => mk_302
  | 3, _ => mk_303
  | 4, _ => mk_304
  | 5, _ => mk_305
  | 6, _ => mk_306
  | 7, _ => mk_307
  | 8, _ => mk_308
  | 9, _ => mk_309
  | 10, _ => mk_310
  | 11, _ => mk_311
  | 12, _ => mk_312
  | 13, _ => mk_313
  | 14, _ => mk_314
  | 15, _ => mk_315
  | 16, _ => mk_316
  | 17, _ => mk_317
  | 18, _ => mk_318
  | 19, _ => mk_319
  | 20, _ => mk_320
  | 21, _ => mk_321
  | 22, _ => mk_322
  | 23, _ => mk_323
  | 24, _ => mk_324
  | 25, _ => mk_325
  | 26, _ => mk_326
  | 27, _ => mk_327
  | 28, _ => mk_328
  | 29, _ => mk_329
  | 30, _ => mk_330
  | k + 31, hk => absurd hk (by omega)
theorem js_allB : ∀ m, js_kB m = true → js_mB m := by
  intro m hm
  have h1 : (133 ≤ m ∧ m < 189) ∨ (300 ≤ m ∧ m < 331) := by
    unfold js_kB at hm
    simp only [Bool.or_eq_true, Bool.and_eq_true] at hm
    rcases hm with hm | hm
    · exact Or.inl ⟨Nat.le_of_ble_eq_true hm.1, Nat.le_of_ble_eq_true hm.2⟩
    · exact Or.inr ⟨Nat.le_of_ble_eq_true hm.1, Nat.le_of_ble_eq_true hm.2⟩
  rcases h1 with h1 | h1
  · obtain ⟨k, hk, rfl⟩ : ∃ k, k < 56 ∧ m = 133 + k := ⟨m - 133, by omega, by omega⟩
    exact ⟨(js_B1 k hk).1, (js_B1 k hk).2, js_B3 k hk⟩
  · obtain ⟨k, hk, rfl⟩ : ∃ k, k < 31 ∧ m = 300 + k := ⟨m - 300, by omega, by omega⟩
    exact ⟨(js_B2 k hk).1, (js_B2 k hk).2, js_B4 k hk⟩
end JS
