/-! The other object is made. -/
section JX
def ro_Z : ro_R := (fun _ => 0, fun _ => 0, fun _ => 0, fun _ => 0, fun _ => 0, fun _ => 0, false, 0, 0, 0, 0, false, -1, -1, 0)
theorem ro_S0 : ro_S (fun _ => 0) mm_0 := ⟨fun k => k, fun _ => fg_0, fun _ => none, ⟨rfl, fun k hk => absurd hk (Nat.not_lt_zero _), fun k _ _ => rfl, fun c _ => rfl, by decide, by decide, fun k hk => hk, ⟨fun j k _ _ e => e, fun c i _ e => (by cases e), fun k c hk => absurd hk (Nat.not_lt_zero _)⟩⟩, fun k _ => rfl, fun c _ => rfl⟩
theorem cn_133 {h : jx_H} {a c : Nat} (S : cn_2 h (a + 1) c) (h1 : h.1 a = some (8, [.null, .null, .null, .int 0, .null, .int 0, .int 0, .null, .int 0, .null, .int 0, .int 0, .int 0, .int 0, .int 0, .null, .int 0])) (ha : jx_nc ≤ a) :
    ∃ h', jx_A 133 [.ref a] h = some (.inl none, h') ∧ cn_2 h' (a + 8) (c + 2915) ∧ ro_I h' a (fun _ => 0) 0 ro_Z ∧ ∀ q, q < a ∨ a + 8 ≤ q → h'.1 q = h.1 q := by
  obtain ⟨g1, x1, S1, o1, r1, f1⟩ := cn_arr S (t := 100) (v := .int 0) (n := 225) (k := 0) (by decide) h1 ha (by omega) (by decide)
  obtain ⟨g2, x2, S2, o2, r2, f2⟩ := cn_arr S1 (t := 100) (v := .int 0) (n := 225) (k := 1) (by decide) o1 ha (by omega) (show 1 < 17 by decide)
  obtain ⟨g3, x3, S3, o3, r3, f3⟩ := cn_arr S2 (t := 100) (v := .int 0) (n := 225) (k := 2) (by decide) o2 ha (by omega) (show 2 < 17 by decide)
  obtain ⟨g4, x4, S4, o4, r4, f4⟩ := cn_arr S3 (t := 100) (v := .int 0) (n := 1800) (k := 4) (by decide) o3 ha (by omega) (show 4 < 17 by decide)
  obtain ⟨g5, x5, S5, o5, r5, f5⟩ := cn_arr S4 (t := 101) (v := .int 0) (n := 20) (k := 7) (by decide) o4 ha (by omega) (show 7 < 17 by decide)
  obtain ⟨g6, x6, S6, o6, r6, f6⟩ := cn_arr S5 (t := 101) (v := .int 0) (n := 60) (k := 9) (by decide) o5 ha (by omega) (show 9 < 17 by decide)
  obtain ⟨g7, x7, o7, e7, s7⟩ : ∃ g7, (∀ f : jx_H → jx_R, jx_pt g6 a 8 13 (.int (-1)) f = f g7) ∧ g7.1 a = some (8, [.ref (a + 1), .ref (a + 2), .ref (a + 3), .int 0, .ref (a + 4), .int 0, .int 0, .ref (a + 5), .int 0, .ref (a + 6), .int 0, .int 0, .int 0, .int (-1), .int 0, .null, .int 0]) ∧ (∀ q, q ≠ a → g7.1 q = g6.1 q) ∧ g7.2 = g6.2 :=
    ⟨_, fun f => jx_pt_e o6 ha (by show 13 < 17; decide) f, mz_set_e, fun q e => mz_set_n e, rfl⟩
  obtain ⟨g8, x8, o8, e8, s8⟩ : ∃ g8, (∀ f : jx_H → jx_R, jx_pt g7 a 8 14 (.int (-1)) f = f g8) ∧ g8.1 a = some (8, [.ref (a + 1), .ref (a + 2), .ref (a + 3), .int 0, .ref (a + 4), .int 0, .int 0, .ref (a + 5), .int 0, .ref (a + 6), .int 0, .int 0, .int 0, .int (-1), .int (-1), .null, .int 0]) ∧ (∀ q, q ≠ a → g8.1 q = g7.1 q) ∧ g8.2 = g7.2 :=
    ⟨_, fun f => jx_pt_e o7 ha (by show 14 < 17; decide) f, mz_set_e, fun q e => mz_set_n e, rfl⟩
  have S8 : cn_2 g8 (a + 1 + 1 + 1 + 1 + 1 + 1 + 1) _ := ⟨(s8.trans s7).trans S6.1, S6.2⟩
  obtain ⟨g9, x9, S9, o9, r9, f9⟩ := cn_arr S8 (t := 100) (v := .int 0) (n := 360) (k := 15) (by decide) o8 ha (by omega) (show 15 < 17 by decide)
  have at1 : g9.1 (a + 1) = g1.1 (a + 1) := (f9 _ (by omega) (by omega)).trans ((e8 _ (by omega)).trans ((e7 _ (by omega)).trans ((f6 _ (by omega) (by omega)).trans ((f5 _ (by omega) (by omega)).trans ((f4 _ (by omega) (by omega)).trans ((f3 _ (by omega) (by omega)).trans (f2 _ (by omega) (by omega))))))))
  have at2 : g9.1 (a + 2) = g2.1 (a + 2) := (f9 _ (by omega) (by omega)).trans ((e8 _ (by omega)).trans ((e7 _ (by omega)).trans ((f6 _ (by omega) (by omega)).trans ((f5 _ (by omega) (by omega)).trans ((f4 _ (by omega) (by omega)).trans (f3 _ (by omega) (by omega)))))))
  have at3 : g9.1 (a + 3) = g3.1 (a + 3) := (f9 _ (by omega) (by omega)).trans ((e8 _ (by omega)).trans ((e7 _ (by omega)).trans ((f6 _ (by omega) (by omega)).trans ((f5 _ (by omega) (by omega)).trans (f4 _ (by omega) (by omega))))))
  have at4 : g9.1 (a + 4) = g4.1 (a + 4) := (f9 _ (by omega) (by omega)).trans ((e8 _ (by omega)).trans ((e7 _ (by omega)).trans ((f6 _ (by omega) (by omega)).trans (f5 _ (by omega) (by omega)))))
  have at5 : g9.1 (a + 5) = g5.1 (a + 5) := (f9 _ (by omega) (by omega)).trans ((e8 _ (by omega)).trans ((e7 _ (by omega)).trans (f6 _ (by omega) (by omega))))
  have at6 : g9.1 (a + 6) = g6.1 (a + 6) := (f9 _ (by omega) (by omega)).trans ((e8 _ (by omega)).trans (e7 _ (by omega)))
  have I9 : ro_I g9 a (fun _ => 0) 0 ro_Z := ⟨⟨o9, at1.trans r1, ha⟩, at2.trans r2, at3.trans r3, at4.trans r4, at5.trans r5, at6.trans r6, r9⟩
  refine ⟨g9, by rw [a_133, x1, x2, x3, x4, x5, x6, x7, x8, x9], S9, I9, fun q hq => ?_⟩
  exact (f9 q (by omega) (by omega)).trans ((e8 q (by omega)).trans ((e7 q (by omega)).trans ((f6 q (by omega) (by omega)).trans ((f5 q (by omega) (by omega)).trans ((f4 q (by omega) (by omega)).trans ((f3 q (by omega) (by omega)).trans ((f2 q (by omega) (by omega)).trans (f1 q (by omega) (by omega)))))))))
end JX
