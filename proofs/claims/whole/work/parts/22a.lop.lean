/-! The law comes to its end with true. -/
section JX
section LW
variable {xs : List Int32} {n c b : Nat} {h : jx_H} {C : cl_T} {S : Nat → Nat} {th : Int32} {R : ro_R} {v5 x1 x2 x3 x4 x5 : Int32} {v6 v7 v8 : Value}
theorem lw_w (L : lw_I xs n c h C S th R b) : lw_I xs (n + 1) (c + 6) h C S th R (b + 13) := by
  obtain ⟨l1, l2, l3, l4, l5, l6, l7, l8, l9, l10, l11, l12⟩ := L
  exact ⟨l1, l2, l3, l4, l5, l6, rl_N_w l7 (Nat.le_add_right b 13), l8, l9, l10, by omega, by omega⟩
theorem lc_all (L : lw_I xs n c h C S th R b) (Sc : lc_S xs v5 x1 x2 x3 x4 x5) (hb : b + 13 < 2 ^ 30) (y : Int32) : lc_P xs n c b v5 (if y = 0 then (jx_E 293 276 [.ref 199, .ref 200, .ref 711, .ref 719, .ref 720, .int v5, v6, v7, v8] [] h) else (if y = 1 then (jx_E 293 382 [.ref 199, .ref 200, .ref 711, .ref 719, .ref 720, .int v5, v6, v7, v8] [] h) else (if y = 2 then (jx_E 293 438 [.ref 199, .ref 200, .ref 711, .ref 719, .ref 720, .int v5, v6, v7, v8] [] h) else (if y = 3 then (jx_E 293 451 [.ref 199, .ref 200, .ref 711, .ref 719, .ref 720, .int v5, v6, v7, v8] [] h) else (if y = 4 then (jx_E 293 464 [.ref 199, .ref 200, .ref 711, .ref 719, .ref 720, .int v5, v6, v7, v8] [] h) else (if y = 5 then (jx_E 293 520 [.ref 199, .ref 200, .ref 711, .ref 719, .ref 720, .int v5, v6, v7, v8] [] h) else (if y = 6 then (jx_E 293 545 [.ref 199, .ref 200, .ref 711, .ref 719, .ref 720, .int v5, v6, v7, v8] [] h) else (if y = 7 then (jx_E 293 601 [.ref 199, .ref 200, .ref 711, .ref 719, .ref 720, .int v5, v6, v7, v8] [] h) else (if y = 8 then (jx_E 293 657 [.ref 199, .ref 200, .ref 711, .ref 719, .ref 720, .int v5, v6, v7, v8] [] h) else (if y = 9 then (jx_E 293 725 [.ref 199, .ref 200, .ref 711, .ref 719, .ref 720, .int v5, v6, v7, v8] [] h) else (if y = 10 then (jx_E 293 788 [.ref 199, .ref 200, .ref 711, .ref 719, .ref 720, .int v5, v6, v7, v8] [] h) else (if y = 11 then (jx_E 293 844 [.ref 199, .ref 200, .ref 711, .ref 719, .ref 720, .int v5, v6, v7, v8] [] h) else (if y = 12 then (jx_E 293 857 [.ref 199, .ref 200, .ref 711, .ref 719, .ref 720, .int v5, v6, v7, v8] [] h) else (if y = 13 then (jx_E 293 937 [.ref 199, .ref 200, .ref 711, .ref 719, .ref 720, .int v5, v6, v7, v8] [] h) else (if y = 14 then (jx_E 293 993 [.ref 199, .ref 200, .ref 711, .ref 719, .ref 720, .int v5, v6, v7, v8] [] h) else (if y = 15 then (jx_E 293 1061 [.ref 199, .ref 200, .ref 711, .ref 719, .ref 720, .int v5, v6, v7, v8] [] h) else (if y = 16 then (jx_E 293 1129 [.ref 199, .ref 200, .ref 711, .ref 719, .ref 720, .int v5, v6, v7, v8] [] h) else (if y = 17 then (jx_E 293 1197 [.ref 199, .ref 200, .ref 711, .ref 719, .ref 720, .int v5, v6, v7, v8] [] h) else (if y = 18 then (jx_E 293 1210 [.ref 199, .ref 200, .ref 711, .ref 719, .ref 720, .int v5, v6, v7, v8] [] h) else (if y = 19 then (jx_E 293 1285 [.ref 199, .ref 200, .ref 711, .ref 719, .ref 720, .int v5, v6, v7, v8] [] h) else (if y = 20 then (jx_E 293 1353 [.ref 199, .ref 200, .ref 711, .ref 719, .ref 720, .int v5, v6, v7, v8] [] h) else (if y = 21 then (jx_E 293 1367 [.ref 199, .ref 200, .ref 711, .ref 719, .ref 720, .int v5, v6, v7, v8] [] h) else (if y = 22 then (jx_E 293 1424 [.ref 199, .ref 200, .ref 711, .ref 719, .ref 720, .int v5, v6, v7, v8] [] h) else (if y = 23 then (jx_E 293 1438 [.ref 199, .ref 200, .ref 711, .ref 719, .ref 720, .int v5, v6, v7, v8] [] h) else (if y = 24 then (jx_E 293 1452 [.ref 199, .ref 200, .ref 711, .ref 719, .ref 720, .int v5, v6, v7, v8] [] h) else (if y = 25 then (jx_E 293 1465 [.ref 199, .ref 200, .ref 711, .ref 719, .ref 720, .int v5, v6, v7, v8] [] h) else (if y = 26 then (jx_E 293 1478 [.ref 199, .ref 200, .ref 711, .ref 719, .ref 720, .int v5, v6, v7, v8] [] h) else (if y = 27 then (jx_E 293 1491 [.ref 199, .ref 200, .ref 711, .ref 719, .ref 720, .int v5, v6, v7, v8] [] h) else (if y = 28 then (jx_E 293 1566 [.ref 199, .ref 200, .ref 711, .ref 719, .ref 720, .int v5, v6, v7, v8] [] h) else (if y = 29 then (jx_E 293 1622 [.ref 199, .ref 200, .ref 711, .ref 719, .ref 720, .int v5, v6, v7, v8] [] h) else (if y = 30 then (jx_E 293 1690 [.ref 199, .ref 200, .ref 711, .ref 719, .ref 720, .int v5, v6, v7, v8] [] h) else (if y = 31 then (jx_E 293 1782 [.ref 199, .ref 200, .ref 711, .ref 719, .ref 720, .int v5, v6, v7, v8] [] h) else (if y = 32 then (jx_E 293 1862 [.ref 199, .ref 200, .ref 711, .ref 719, .ref 720, .int v5, v6, v7, v8] [] h) else (if y = 33 then (jx_E 293 1930 [.ref 199, .ref 200, .ref 711, .ref 719, .ref 720, .int v5, v6, v7, v8] [] h) else (if y = 34 then (jx_E 293 2010 [.ref 199, .ref 200, .ref 711, .ref 719, .ref 720, .int v5, v6, v7, v8] [] h) else (if y = 35 then (jx_E 293 2023 [.ref 199, .ref 200, .ref 711, .ref 719, .ref 720, .int v5, v6, v7, v8] [] h) else (if y = 36 then (jx_E 293 2036 [.ref 199, .ref 200, .ref 711, .ref 719, .ref 720, .int v5, v6, v7, v8] [] h) else (if y = 37 then (jx_E 293 2092 [.ref 199, .ref 200, .ref 711, .ref 719, .ref 720, .int v5, v6, v7, v8] [] h) else (if y = 38 then (jx_E 293 2147 [.ref 199, .ref 200, .ref 711, .ref 719, .ref 720, .int v5, v6, v7, v8] [] h) else (if y = 39 then (jx_E 293 2191 [.ref 199, .ref 200, .ref 711, .ref 719, .ref 720, .int v5, v6, v7, v8] [] h) else (if y = 40 then (jx_E 293 2257 [.ref 199, .ref 200, .ref 711, .ref 719, .ref 720, .int v5, v6, v7, v8] [] h) else (if y = 41 then (jx_E 293 2301 [.ref 199, .ref 200, .ref 711, .ref 719, .ref 720, .int v5, v6, v7, v8] [] h) else (if y = 42 then (jx_E 293 2366 [.ref 199, .ref 200, .ref 711, .ref 719, .ref 720, .int v5, v6, v7, v8] [] h) else (if y = 43 then (jx_E 293 2379 [.ref 199, .ref 200, .ref 711, .ref 719, .ref 720, .int v5, v6, v7, v8] [] h) else (if y = 44 then (jx_E 293 2435 [.ref 199, .ref 200, .ref 711, .ref 719, .ref 720, .int v5, v6, v7, v8] [] h) else (if y = 45 then (jx_E 293 2491 [.ref 199, .ref 200, .ref 711, .ref 719, .ref 720, .int v5, v6, v7, v8] [] h) else (if y = 46 then (jx_E 293 2547 [.ref 199, .ref 200, .ref 711, .ref 719, .ref 720, .int v5, v6, v7, v8] [] h) else (if y = 47 then (jx_E 293 2605 [.ref 199, .ref 200, .ref 711, .ref 719, .ref 720, .int v5, v6, v7, v8] [] h) else (if y = 48 then (jx_E 293 2649 [.ref 199, .ref 200, .ref 711, .ref 719, .ref 720, .int v5, v6, v7, v8] [] h) else (if y = 49 then (jx_E 293 2693 [.ref 199, .ref 200, .ref 711, .ref 719, .ref 720, .int v5, v6, v7, v8] [] h) else (if y = 50 then (jx_E 293 2737 [.ref 199, .ref 200, .ref 711, .ref 719, .ref 720, .int v5, v6, v7, v8] [] h) else (if y = 51 then (jx_E 293 2781 [.ref 199, .ref 200, .ref 711, .ref 719, .ref 720, .int v5, v6, v7, v8] [] h) else (if y = 52 then (jx_E 293 2794 [.ref 199, .ref 200, .ref 711, .ref 719, .ref 720, .int v5, v6, v7, v8] [] h) else (if y = 53 then (jx_E 293 2807 [.ref 199, .ref 200, .ref 711, .ref 719, .ref 720, .int v5, v6, v7, v8] [] h) else (jx_E 293 2851 [.ref 199, .ref 200, .ref 711, .ref 719, .ref 720, .int v5, v6, v7, v8] [] h))))))))))))))))))))))))))))))))))))))))))))))))))))))) := by
  by_cases c0 : y = 0
  · rw [if_pos c0]; exact lc_276 L Sc hb
  rw [if_neg c0]
  by_cases c1 : y = 1
  · rw [if_pos c1]; exact lc_382 L Sc
  rw [if_neg c1]
  by_cases c2 : y = 2
  · rw [if_pos c2]; exact lc_438 L
  rw [if_neg c2]
  by_cases c3 : y = 3
  · rw [if_pos c3]; exact lc_451 L
  rw [if_neg c3]
  by_cases c4 : y = 4
  · rw [if_pos c4]; exact lc_464 L Sc
  rw [if_neg c4]
  by_cases c5 : y = 5
  · rw [if_pos c5]; exact lc_520 L Sc
  rw [if_neg c5]
  by_cases c6 : y = 6
  · rw [if_pos c6]; exact lc_545 L Sc
  rw [if_neg c6]
  by_cases c7 : y = 7
  · rw [if_pos c7]; exact lc_601 L Sc
  rw [if_neg c7]
  by_cases c8 : y = 8
  · rw [if_pos c8]; exact lc_657 L Sc
  rw [if_neg c8]
  by_cases c9 : y = 9
  · rw [if_pos c9]; exact lc_725 L Sc
  rw [if_neg c9]
  by_cases c10 : y = 10
  · rw [if_pos c10]; exact lc_788 L Sc
  rw [if_neg c10]
  by_cases c11 : y = 11
  · rw [if_pos c11]; exact lc_844 L
  rw [if_neg c11]
  by_cases c12 : y = 12
  · rw [if_pos c12]; exact lc_857 L Sc
  rw [if_neg c12]
  by_cases c13 : y = 13
  · rw [if_pos c13]; exact lc_937 L Sc
  rw [if_neg c13]
  by_cases c14 : y = 14
  · rw [if_pos c14]; exact lc_993 L Sc
  rw [if_neg c14]
  by_cases c15 : y = 15
  · rw [if_pos c15]; exact lc_1061 L Sc
  rw [if_neg c15]
  by_cases c16 : y = 16
  · rw [if_pos c16]; exact lc_1129 L Sc
  rw [if_neg c16]
  by_cases c17 : y = 17
  · rw [if_pos c17]; exact lc_1197 L
  rw [if_neg c17]
  by_cases c18 : y = 18
  · rw [if_pos c18]; exact lc_1210 L Sc
  rw [if_neg c18]
  by_cases c19 : y = 19
  · rw [if_pos c19]; exact lc_1285 L Sc
  rw [if_neg c19]
  by_cases c20 : y = 20
  · rw [if_pos c20]; exact lc_1353 L
  rw [if_neg c20]
  by_cases c21 : y = 21
  · rw [if_pos c21]; exact lc_1367 L Sc
  rw [if_neg c21]
  by_cases c22 : y = 22
  · rw [if_pos c22]; exact lc_1424 L
  rw [if_neg c22]
  by_cases c23 : y = 23
  · rw [if_pos c23]; exact lc_1438 L
  rw [if_neg c23]
  by_cases c24 : y = 24
  · rw [if_pos c24]; exact lc_1452 L
  rw [if_neg c24]
  by_cases c25 : y = 25
  · rw [if_pos c25]; exact lc_1465 L
  rw [if_neg c25]
  by_cases c26 : y = 26
  · rw [if_pos c26]; exact lc_1478 L
  rw [if_neg c26]
  by_cases c27 : y = 27
  · rw [if_pos c27]; exact lc_1491 L Sc
  rw [if_neg c27]
  by_cases c28 : y = 28
  · rw [if_pos c28]; exact lc_1566 L Sc
  rw [if_neg c28]
  by_cases c29 : y = 29
  · rw [if_pos c29]; exact lc_1622 L Sc
  rw [if_neg c29]
  by_cases c30 : y = 30
  · rw [if_pos c30]; exact lc_1690 L Sc
  rw [if_neg c30]
  by_cases c31 : y = 31
  · rw [if_pos c31]; exact lc_1782 L Sc
  rw [if_neg c31]
  by_cases c32 : y = 32
  · rw [if_pos c32]; exact lc_1862 L Sc
  rw [if_neg c32]
  by_cases c33 : y = 33
  · rw [if_pos c33]; exact lc_1930 L Sc
  rw [if_neg c33]
  by_cases c34 : y = 34
  · rw [if_pos c34]; exact lc_2010 L
  rw [if_neg c34]
  by_cases c35 : y = 35
  · rw [if_pos c35]; exact lc_2023 L
  rw [if_neg c35]
  by_cases c36 : y = 36
  · rw [if_pos c36]; exact lc_2036 L Sc
  rw [if_neg c36]
  by_cases c37 : y = 37
  · rw [if_pos c37]; exact lc_2092 L Sc
  rw [if_neg c37]
  by_cases c38 : y = 38
  · rw [if_pos c38]; exact lc_2147 L Sc
  rw [if_neg c38]
  by_cases c39 : y = 39
  · rw [if_pos c39]; exact lc_2191 L
  rw [if_neg c39]
  by_cases c40 : y = 40
  · rw [if_pos c40]; exact lc_2257 L Sc
  rw [if_neg c40]
  by_cases c41 : y = 41
  · rw [if_pos c41]; exact lc_2301 L
  rw [if_neg c41]
  by_cases c42 : y = 42
  · rw [if_pos c42]; exact lc_2366 L
  rw [if_neg c42]
  by_cases c43 : y = 43
  · rw [if_pos c43]; exact lc_2379 L Sc
  rw [if_neg c43]
  by_cases c44 : y = 44
  · rw [if_pos c44]; exact lc_2435 L Sc
  rw [if_neg c44]
  by_cases c45 : y = 45
  · rw [if_pos c45]; exact lc_2491 L Sc
  rw [if_neg c45]
  by_cases c46 : y = 46
  · rw [if_pos c46]; exact lc_2547 L Sc
  rw [if_neg c46]
  by_cases c47 : y = 47
  · rw [if_pos c47]; exact lc_2605 L hb
  rw [if_neg c47]
  by_cases c48 : y = 48
  · rw [if_pos c48]; exact lc_2649 L
  rw [if_neg c48]
  by_cases c49 : y = 49
  · rw [if_pos c49]; exact lc_2693 L
  rw [if_neg c49]
  by_cases c50 : y = 50
  · rw [if_pos c50]; exact lc_2737 L
  rw [if_neg c50]
  by_cases c51 : y = 51
  · rw [if_pos c51]; exact lc_2781 L
  rw [if_neg c51]
  by_cases c52 : y = 52
  · rw [if_pos c52]; exact lc_2794 L
  rw [if_neg c52]
  by_cases c53 : y = 53
  · rw [if_pos c53]; exact lc_2807 L
  rw [if_neg c53]
  exact ⟨h, v6, v7, v8, C, S, th, R, rfl, lw_w L⟩
theorem sc_lI (K : mz_K xs h) {k : Nat} (hk : k < xs.length) (hL : xs.length ≤ 3072) (F : Int32 → jx_R) : jx_lI h 199 100 (nI k) F = F (xs.getD k 0) := by
  have e : h.1 199 = some (100, xs.map .int) := K 199 (by decide)
  refine jx_lI_e e (nI_pos' (by omega)) ?_ F
  rw [nI_clamp (by omega), List.getElem?_map, List.getD_eq_getElem?_getD, List.getElem?_eq_getElem hk]
  rfl
theorem lc_S_of (hL : xs.length ≤ 3072) {i : Nat} (hi : i + 6 ≤ xs.length) : lc_S xs (nI i) (xs.getD (i + 1) 0) (xs.getD (i + 2) 0) (xs.getD (i + 3) 0) (xs.getD (i + 4) 0) (xs.getD (i + 5) 0) := by
  refine ⟨fun h K F => ?_, fun h K F => ?_, fun h K F => ?_, fun h K F => ?_, fun h K F => ?_⟩
  · rw [show nI i + 1 = nI (i + 1) from nI_add i 1]; exact sc_lI K (by omega) hL F
  · rw [show nI i + 2 = nI (i + 2) from nI_add i 2]; exact sc_lI K (by omega) hL F
  · rw [show nI i + 3 = nI (i + 3) from nI_add i 3]; exact sc_lI K (by omega) hL F
  · rw [show nI i + 4 = nI (i + 4) from nI_add i 4]; exact sc_lI K (by omega) hL F
  · rw [show nI i + 5 = nI (i + 5) from nI_add i 5]; exact sc_lI K (by omega) hL F
theorem sc_lt {N i : Nat} (hN : N ≤ 3072) (hi : i ≤ 3072) : nI N - 6 < nI i ↔ N < i + 6 := by
  rw [← zI_n N, ← zI_n i, show (6 : Int32) = zI 6 from rfl, zI_sub, zI_lt (by omega) (by omega) (by omega) (by omega)]
  omega
/-- the loop of the law -/
theorem lw_loop (hL : xs.length ≤ 3072) : ∀ (f t : Nat) {h : jx_H} {C : cl_T} {S : Nat → Nat} {th : Int32} {R : ro_R} {w6 w7 w8 : Value}, 6 * (t + f) ≤ xs.length → xs.length < 6 * (t + f) + 6 → lw_I xs (521 + t) (6192 + 6 * t) h C S th R (13 * t) →
    ∃ h', jx_E 293 28 [.ref 199, .ref 200, .ref 711, .ref 719, .ref 720, .int (nI (6 * t)), w6, w7, w8] [] h = some (.inl (some (.int 1)), h') ∧ h'.2.2.1 ≤ 521 + (t + f) ∧ h'.2.2.2 ≤ 6192 + 6 * (t + f) := by
  intro f
  induction f with
  | zero =>
    intro t h C S th R w6 w7 w8 h1 h2 L
    have e : h.1 199 = some (100, xs.map .int) := L.1 199 (by decide)
    refine ⟨h, ?_, L.2.2.2.2.2.2.2.2.2.2.1, L.2.2.2.2.2.2.2.2.2.2.2⟩
    rw [b_293_28, jx_sz_e e (by decide), List.length_map, if_pos ((sc_lt hL (by omega)).mpr (by omega))]
  | succ f ih =>
    intro t h C S th R w6 w7 w8 h1 h2 L
    have e : h.1 199 = some (100, xs.map .int) := L.1 199 (by decide)
    have hi : 6 * t + 6 ≤ xs.length := by omega
    have P := lc_all (v6 := w6) (v7 := w7) (v8 := w8) L (lc_S_of hL hi) (by omega) (xs.getD (6 * t) 0 &&& 63)
    obtain ⟨h3, u6, u7, u8, C', S', th', R', X, L'⟩ := P
    have L' : lw_I xs (521 + (t + 1)) (6192 + 6 * (t + 1)) h3 C' S' th' R' (13 * (t + 1)) := L'
    obtain ⟨h4, x4, a4, b4⟩ := ih (t + 1) (w6 := u6) (w7 := u7) (w8 := u8) (by omega) (by omega) L'
    refine ⟨h4, ?_, by omega, by omega⟩
    rw [b_293_28, jx_sz_e e (by decide), List.length_map, if_neg (fun q => by have := (sc_lt hL (by omega)).mp q; omega), sc_lI L.1 (by omega) hL]
    refine X.trans ?_
    rw [b_293_2851, show nI (6 * t) + 6 = nI (6 * (t + 1)) from nI_add (6 * t) 6]
    exact x4
/-- the law's start -/
theorem lw_run (hL : xs.length ≤ 3072) (K : mz_K xs h) (h2 : h.2 = (200, 0, 0)) : ∃ h', jx_A 293 [.ref 199] h = some (.inl (some (.int 1)), h') ∧ h'.2.2.1 ≤ 3000 ∧ h'.2.2.2 ≤ 20000 := by
  have S0 : cn_2 h 200 0 := ⟨h2, Nat.le_refl _⟩
  have S1 := cn_add S0 (7, [.null, .null, .int 0, .null, .null, .null, .null, .null, .int 0, .int 0, .int 0]) 11
  have K1 : mz_K xs (jx_add h (7, [.null, .null, .int 0, .null, .null, .null, .null, .null, .int 0, .int 0, .int 0]) 11) := fun q hq => (cn_add_n S0 (Nat.ne_of_lt hq)).trans (K q hq)
  obtain ⟨g1, x1, T1, I1, f1⟩ := cn_59 K1 S1 (cn_add_e S0)
  have S2 := cn_add T1 (8, [.null, .null, .null, .int 0, .null, .int 0, .int 0, .null, .int 0, .null, .int 0, .int 0, .int 0, .int 0, .int 0, .null, .int 0]) 17
  obtain ⟨g2, x2, T2, J2, f2⟩ := cn_133 S2 (cn_add_e T1) (by decide)
  have S3 := cn_add T2 (102, List.replicate (1 : Int32).toNatClampNeg (.long 0)) (1 : Int32).toNatClampNeg
  have S4 := cn_add S3 (103, List.replicate (1 : Int32).toNatClampNeg (.double 0)) (1 : Int32).toNatClampNeg
  have E : jx_A 293 [.ref 199] h = jx_E 293 28 [.ref 199, .ref 200, .ref 711, .ref 719, .ref 720, .int (nI (6 * 0)), jx_j, jx_j, jx_j] [] (jx_add (jx_add g2 (102, List.replicate (1 : Int32).toNatClampNeg (.long 0)) (1 : Int32).toNatClampNeg) (103, List.replicate (1 : Int32).toNatClampNeg (.double 0)) (1 : Int32).toNatClampNeg) := by
    rw [a_293, cn_obj S0, cn_1 S0, jx_cV_e x1, cn_obj T1, cn_1 T1, jx_cV_e x2, if_pos ⟨by decide, by decide, cn_b T2⟩, if_pos ⟨by decide, by decide, cn_b S3⟩, cn_1 T2, cn_1 S3]
    rfl
  have up : ∀ q, q < 719 → (jx_add (jx_add g2 (102, List.replicate (1 : Int32).toNatClampNeg (.long 0)) (1 : Int32).toNatClampNeg) (103, List.replicate (1 : Int32).toNatClampNeg (.double 0)) (1 : Int32).toNatClampNeg).1 q = g2.1 q := fun q hq => (cn_add_n S3 (by omega)).trans (cn_add_n T2 (by omega))
  have up1 : ∀ q, q < 711 → g2.1 q = g1.1 q := fun q hq => (f2 q (Or.inl hq)).trans (cn_add_n T1 (by omega))
  have L : lw_I xs (521 + 0) (6192 + 6 * 0) (jx_add (jx_add g2 (102, List.replicate (1 : Int32).toNatClampNeg (.long 0)) (1 : Int32).toNatClampNeg) (103, List.replicate (1 : Int32).toNatClampNeg (.double 0)) (1 : Int32).toNatClampNeg) cl_Z (fun _ => 0) 0 ro_Z (13 * 0) := by
    refine ⟨fun q hq => ?_, cl_I_ag I1 (fun q _ hq => (up q (by omega)).trans (up1 q hq)), ro_ag J2 (fun q _ hq => up q hq), ro_S0, mm_ok_Z, ?_, ?_, ⟨0, (cn_add_n S3 (by decide)).trans (cn_add_e T2)⟩, ⟨0, cn_add_e S3⟩, cn_1 S4, ?_, ?_⟩
    · have hq : q < 200 := hq
      rw [up q (by omega), up1 q (by omega), f1 q (Or.inl hq)]
      exact K1 q hq
    · exact ⟨⟨rfl, fun T e => (by cases e)⟩, ⟨rfl, by decide, fun j hj => absurd hj (Nat.not_lt_zero _)⟩, ⟨rfl, by decide, fun j hj => absurd hj (Nat.not_lt_zero _)⟩, ⟨rfl, by decide, fun j hj => absurd hj (Nat.not_lt_zero _)⟩, ⟨rfl, Or.inl rfl⟩, ⟨rfl, Or.inl rfl⟩⟩
    · exact ⟨Nat.le_refl _, fun T e => (by cases e), fun j hj => absurd hj (Nat.not_lt_zero _)⟩
    · rw [S4.1]; decide
    · rw [S4.1]; decide
  obtain ⟨h', x, a, b⟩ := lw_loop hL (xs.length / 6) 0 (w6 := jx_j) (w7 := jx_j) (w8 := jx_j) (by omega) (by omega) L
  exact ⟨h', E.trans x, by omega, by omega⟩
end LW
end JX
