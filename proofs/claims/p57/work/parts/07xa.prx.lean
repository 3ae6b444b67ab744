/-! All commands are read; a command is carried out; all commands are carried out, or none. -/
section JX
def pz_v (q : Nat × List Nat) (t : Nat) : Int32 := nI (q.2.getD t 0)
def cm_ok (kw : Nat → Nat) (va : Nat → Nat → Int32) (j : Nat) (q : Nat × List Nat) : Prop := kw j = 4 + q.1 ∧ q.1 < 7 ∧ q.2.length = (pz_F q.1).length ∧ ∀ t x, q.2[t]? = some x → va j t = nI x ∧ x < 128
def ra_P (h : jx_H) (s tl cc : Nat) (tx : Nat → Nat) (X : jx_R) : Nat ⊕ List (Nat × List Nat) → Prop
  | .inl e => ∃ h' kw va, e ≤ tl ∧ sc_I h' s tl e cc tx kw va ∧ mz_eq s (s + 27) h h' ∧ X = some (.inl (some (.int 0)), h')
  | .inr l => ∃ h' po kw va, l.length ≤ 12 ∧ sc_I h' s tl po l.length tx kw va ∧ (∀ j q, l[j]? = some q → cm_ok kw va j q) ∧ mz_eq s (s + 27) h h' ∧ X = some (.inl (some (.int 1)), h')
def ex_ok (M : mm_T) (q : Nat × List Nat) (M' : mm_T) : Prop := match q.1 with
  | 0 => ∃ r, ok_add M (pz_v q 0) (pz_v q 1) (pz_v q 2) (pz_v q 3) (pz_v q 4) r M'
  | 1 => ∃ r, ok_put M (pz_v q 0) (pz_v q 2) (pz_v q 3) r M'
  | 2 => ∃ r, ok_take M (pz_v q 0) r M'
  | 3 => ∃ r, ok_turn M (pz_v q 0) (pz_v q 2) r M'
  | 4 => ∃ r, ok_swap M (pz_v q 0) (pz_v q 2) r M'
  | 5 => ∃ r, mm_fl 20 M r M'
  | _ => ∃ r, ok_drop M (pz_v q 0) r M'
def ex_no (M : mm_T) (q : Nat × List Nat) : Prop := match q.1 with
  | 0 => ∃ r, no_add M (pz_v q 0) (pz_v q 1) (pz_v q 2) (pz_v q 3) (pz_v q 4) r
  | 1 => ∃ r, no_put M (pz_v q 0) (pz_v q 2) (pz_v q 3) r
  | 2 => ∃ r, no_take M (pz_v q 0) r
  | 3 => ∃ r, no_turn M (pz_v q 0) (pz_v q 2) r
  | 4 => ∃ r, no_swap M (pz_v q 0) (pz_v q 2) r
  | 5 => False
  | _ => ∃ r, no_drop M (pz_v q 0) r
def ex_l : mm_T → List (Nat × List Nat) → mm_T → Prop
  | M, [], M' => M' = M
  | M, q :: l, M' => ∃ M1, ex_ok M q M1 ∧ ex_l M1 l M'
def ex_f : mm_T → List (Nat × List Nat) → Nat → Prop
  | _, [], _ => False
  | M, q :: _, 0 => ex_no M q
  | M, q :: l, j + 1 => ∃ M1, ex_ok M q M1 ∧ ex_f M1 l j
theorem pz_A_s (c : Nat → Nat) (L f po : Nat) : pz_A c L (f + 1) po = (match pz_C c po with | .inl e => .inl e | .inr q => if q.2 = L then .inr [q.1] else if c q.2 = 59 then (match pz_A c L f (q.2 + 1) with | .inl e => .inl e | .inr l => .inr (q.1 :: l)) else .inl q.2) := rfl
theorem mm_fl_nx : ∀ (m : Nat) (M : mm_T) (r : Nat) (M' : mm_T), mm_fl m M r M' → M'.2.1 = M.2.1
  | 0, M, r, M', h => by rw [h.2]
  | m + 1, M, r, M', h => by
    rcases h with ⟨-, -, rfl⟩ | ⟨c, k, r', -, -, -, -, h⟩
    · rfl
    · exact (mm_fl_nx m (mm_pg M k c) r' M' h).trans rfl
theorem ex_nx {M M' : mm_T} {q : Nat × List Nat} (h : ex_ok M q M') : M'.2.1 ≤ M.2.1 + 1 := by
  unfold ex_ok at h
  split at h
  · obtain ⟨r, c', n', e', s', w', -, -, -, -, -, -, -, rfl⟩ := h; exact Nat.le_refl _
  · obtain ⟨r, k, i, j, -, -, -, -, -, -, -, -, rfl⟩ := h; exact Nat.le_succ _
  · obtain ⟨r, k, c, -, -, -, -, rfl⟩ := h; exact Nat.le_succ _
  · obtain ⟨r, k, t', -, -, -, -, rfl⟩ := h; exact Nat.le_succ _
  · obtain ⟨r, k, l, c, d, -, -, -, -, -, -, -, -, rfl⟩ := h; exact Nat.le_succ _
  · obtain ⟨r, h⟩ := h; rw [mm_fl_nx _ _ _ _ h]; exact Nat.le_succ _
  · obtain ⟨r, k, -, -, -, rfl⟩ := h; exact Nat.le_succ _
section SC
variable {xs : List Int32} {h : jx_H} {s tl po cc : Nat} {tx : Nat → Nat} {kw : Nat → Nat} {va : Nat → Nat → Int32}
theorem m_51 (G : sc_I h s tl po cc tx kw va) : ∃ h', jx_A 51 [.ref s] h = some (.inl none, h') ∧ sc_I h' s 0 po cc tx kw va ∧ mz_eq s (s + 27) h h' := by
  obtain ⟨h1, x1, G1, t1⟩ := sc_ptl G
  exact ⟨h1, by rw [a_51, x1], G1, t1⟩
theorem m_52 (K : mz_K xs h) (G : sc_I h s tl po cc tx kw va) : ra_P h s tl cc tx (jx_A 52 [.ref s] h) (pz_A (pz_c tx tl) tl 12 0) := by
  have htl : tl ≤ 60 := G.2.2.2.2.2.1
  have ns : jx_nc ≤ s := G.2.2.2.2.2.2.2.2
  obtain ⟨h1, x1, G1, t1⟩ := sc_pp G (v := 0) (by omega)
  rw [a_52, show (0 : Int32) = nI 0 from rfl, x1]
  refine mz_inv (γ := jx_H × Nat × List (Nat × List Nat)) (fun i z => jx_E 52 7 [.ref s, .int (nI i)] [] z.1)
    (fun i z => z.2.1 ≤ tl ∧ z.2.2.length = i ∧ pz_A (pz_c tx tl) tl 12 0 = (match pz_A (pz_c tx tl) tl (12 - i) z.2.1 with | .inl e => .inl e | .inr l => .inr (z.2.2 ++ l)) ∧ mz_eq s (s + 27) h z.1 ∧ ∃ kw va, sc_I z.1 s tl z.2.1 cc tx kw va ∧ ∀ j q, z.2.2[j]? = some q → cm_ok kw va j q) 12
    (fun X => ra_P h s tl cc tx X (pz_A (pz_c tx tl) tl 12 0)) ?_ ?_ 0 (h1, 0, []) (by decide) ⟨Nat.zero_le _, rfl, ?_, t1, kw, va, G1, fun j q hq => by cases hq⟩
  · rintro ⟨u, p, cs⟩ ⟨i1, i2, i3, i4, kw', va', i5, i6⟩
    dsimp only at i1 i2 i3 i4 i5 i6 ⊢
    rw [i3]
    refine ⟨u, kw', va', i1, i5, i4, ?_⟩
    rw [b_52_7, if_pos (by decide)]
  · rintro i ⟨u, p, cs⟩ hi ⟨i1, i2, i3, i4, kw', va', i5, i6⟩
    dsimp only at i1 i2 i3 i4 i5 i6 ⊢
    have K5 := mz_K_eq K i4 ns
    have r1 := m_53 K5 i5 i1 hi
    have E : jx_E 52 7 [.ref s, .int (nI i)] [] u = jx_cI jx_A 53 [.ref s, .ref (s + 3 + 2 * i)] u (fun y4 h3 => if y4 = 0 then (some (.inl (some (.int 0)), h3)) else (jx_gI h3 s 6 2 (fun x6 => jx_gI h3 s 6 1 (fun x8 => if x6 = x8 then (jx_pt h3 s 6 4 (.int (nI (i + 1))) (fun h11 => some (.inl (some (.int 1)), h11))) else (jx_is h3 s 6 (jx_cI jx_A 57 [.ref s, .int 59] h3 (fun y10 h9 => if y10 = (-1) then (some (.inl (some (.int 0)), h9)) else (jx_E 52 7 [.ref s, .int (nI (i + 1))] [] h9)))))))) := by
      rw [b_52_7, if_neg (show ¬ 12 ≤ nI i from nI_ge (b := 12) hi (by decide)), sc_3 i5, mz_lA i5.2.2.1 hi (by decide) rfl, sc_is i5, nI_1]
    have e12 : 12 - i = (12 - (i + 1)) + 1 := by omega
    rw [e12] at i3
    rw [pz_A_s _ _ (12 - (i + 1)) p] at i3
    cases z : pz_C (pz_c tx tl) p with
    | inl e =>
      left
      rw [z] at r1 i3
      obtain ⟨h3, va3, kw3, e3, G3, t3, x3⟩ := r1
      dsimp only at i3
      rw [i3]
      refine ⟨h3, kw3, va3, e3, G3, mz_eq_tr i4 t3, ?_⟩
      rw [E, jx_cI_e x3, if_pos rfl]
    | inr q =>
      rw [z] at r1 i3
      obtain ⟨h3, va3, e3, q7, ql, G3, v3, t3, x3⟩ := r1
      dsimp only at i3
      have ok : ∀ j q', (cs ++ [q.1])[j]? = some q' → cm_ok (fun j => if j = i then 4 + q.1.1 else kw' j) (fun j => if j = i then va3 else va' j) j q' := by
        intro j q' hj
        unfold cm_ok
        dsimp only
        by_cases c : j = i
        · rw [if_pos c, if_pos c]
          subst c
          rw [← i2, List.getElem?_concat_length] at hj
          have := Option.some.inj hj
          subst this
          exact ⟨rfl, q7, ql, v3⟩
        · rw [if_neg c, if_neg c]
          rw [List.getElem?_append] at hj
          split at hj
          · exact i6 j q' hj
          · have := (List.getElem?_eq_some_iff.mp hj).1
            simp at this
            omega
      have E2 : jx_E 52 7 [.ref s, .int (nI i)] [] u = if nI q.2 = nI tl then (jx_pt h3 s 6 4 (.int (nI (i + 1))) (fun h11 => some (.inl (some (.int 1)), h11))) else jx_cI jx_A 57 [.ref s, .int 59] h3 (fun y10 h9 => if y10 = (-1) then (some (.inl (some (.int 0)), h9)) else (jx_E 52 7 [.ref s, .int (nI (i + 1))] [] h9)) := by
        rw [E, jx_cI_e x3, if_neg (by decide), sc_2 G3, sc_1 G3, sc_is G3]
      by_cases c1 : q.2 = tl
      · left
        rw [if_pos c1] at i3
        dsimp only at i3
        rw [i3]
        obtain ⟨h4, x4, G4, t4⟩ := sc_pcc G3 (v := i + 1) (by omega)
        refine ⟨h4, q.2, _, _, by rw [List.length_append, i2]; exact hi, by rw [List.length_append, i2]; exact G4, ok, mz_eq_tr i4 (mz_eq_tr t3 t4), ?_⟩
        rw [E2, if_pos (by rw [c1]), x4]
      · rw [if_neg c1] at i3
        have E3 : jx_E 52 7 [.ref s, .int (nI i)] [] u = jx_cI jx_A 57 [.ref s, .int 59] h3 (fun y10 h9 => if y10 = (-1) then (some (.inl (some (.int 0)), h9)) else (jx_E 52 7 [.ref s, .int (nI (i + 1))] [] h9)) := by
          rw [E2, if_neg (fun w => c1 ((nI_eq (by omega) (by omega)).mp w))]
        have r2 := m_57 G3 e3 (k := 59) (by decide)
        have sg : pz_sg (pz_c tx tl) 59 q.2 = if pz_c tx tl q.2 = 59 then .inr (59, q.2 + 1) else .inl q.2 := by
          unfold pz_sg
          have : pz_vs 59 (pz_c tx tl q.2) = if pz_c tx tl q.2 = 59 then some (pz_c tx tl q.2) else none := rfl
          rw [this]
          by_cases c : pz_c tx tl q.2 = 59
          · rw [if_pos c, if_pos c, c]
          · rw [if_neg c, if_neg c]
        rw [sg] at r2
        by_cases c2 : pz_c tx tl q.2 = 59
        · right
          rw [if_pos c2] at i3 r2
          obtain ⟨h4, e4, v4, -, G4, t4, x4⟩ := r2
          dsimp only at e4 G4 x4
          refine ⟨(h4, q.2 + 1, cs ++ [q.1]), ⟨e4, by simp [i2], ?_, mz_eq_tr i4 (mz_eq_tr t3 t4), _, _, G4, ok⟩, ?_⟩
          · dsimp only
            rw [i3]
            cases pz_A (pz_c tx tl) tl (12 - (i + 1)) (q.2 + 1) with
            | inl e => rfl
            | inr l => simp
          · dsimp only
            rw [E3, jx_cI_e (show jx_A 57 [.ref s, .int 59] h3 = _ from x4), if_neg (zO_n1 59 v4)]
        · left
          rw [if_neg c2] at i3 r2
          obtain ⟨h4, e4, G4, t4, x4⟩ := r2
          dsimp only at i3
          rw [i3]
          refine ⟨h4, _, _, e4, G4, mz_eq_tr i4 (mz_eq_tr t3 t4), ?_⟩
          rw [E3, jx_cI_e (show jx_A 57 [.ref s, .int 59] h3 = _ from x4), if_pos rfl]
  · dsimp only
    cases pz_A (pz_c tx tl) tl 12 0 <;> rfl
end SC
section CL
variable {xs : List Int32} {h : jx_H} {nx : Nat} {C : cl_T}
theorem bd_neg : ∀ r : Int32, r = -1 ∨ r = -2 ∨ r = -3 ∨ r = -4 → ¬ 0 ≤ r := by
  rintro r (rfl | rfl | rfl | rfl) <;> decide
theorem m_125 (K : mz_K xs h) (J : cl_J h nx C) {tl po cc : Nat} {tx kw : Nat → Nat} {va : Nat → Nat → Int32} (G : sc_I h 683 tl po cc tx kw va) (hx : C.1.2.1 + 1 < 2 ^ 30) {i : Nat} (hi : i < 12) {q : Nat × List Nat} (ck : cm_ok kw va i q) :
    (∃ n h' M', ex_ok C.1 q M' ∧ n < 2 ^ 30 ∧ jx_A 125 [.ref 200, .ref (683 + 3 + 2 * i)] h = some (.inl (some (.int (nI n))), h') ∧ bd_R h' 201 M' ∧ gs_V h' 676 ∧ mz_e2 201 244 676 680 h h') ∨
    (∃ e : Int32, ex_no C.1 q ∧ ¬ 0 ≤ e ∧ jx_A 125 [.ref 200, .ref (683 + 3 + 2 * i)] h = some (.inl (some (.int e)), h)) := by
  obtain ⟨ki, vs⟩ := q
  obtain ⟨c1, c2, c3, c4⟩ := ck
  dsimp only at c1 c2 c3 c4
  obtain ⟨g1, g2, -⟩ := G.2.2.2.1 i hi
  rw [c1] at g1
  obtain ⟨k1, -, -⟩ := kw_st K ki c2
  have k0 : h.1 0 = some (100, [.int 1, .int 2, .int 3, .int 4, .int 5, .int 0, .int 6]) := K 0 (by decide)
  have e241 : jx_A 241 [.ref (4 + ki)] h = some (.inl (some (.int (nI ki))), h) := by rw [a_241, jx_gI_e k1 rfl]
  have ok := bd_R_ok J.2.1
  have R := J.2.1
  have G7 := J.2.2.2.2.2.2.1
  have vv : ∀ t, t < vs.length → va i t = pz_v (ki, vs) t ∧ ∃ x, x < 128 ∧ pz_v (ki, vs) t = nI x := fun t ht => by
    have e := List.getElem?_eq_getElem ht
    have a := c4 t _ e
    have b : pz_v (ki, vs) t = nI vs[t] := by
      show nI (vs.getD t 0) = _
      rw [List.getD_eq_getElem?_getD, e]; rfl
    exact ⟨by rw [b]; exact a.1, _, a.2, b⟩
  have ld : ∀ t, t < vs.length → t < 5 → ∀ F : Int32 → jx_R, jx_lI h (683 + 4 + 2 * i) 100 (nI t) F = F (pz_v (ki, vs) t) := fun t ht h5 F => mz_lI g2 h5 (by decide) (by rw [(vv t ht).1]) F
  have sw : ∀ F : Int32 → jx_R, jx_lI h 0 100 (nI ki) F = F (nI ([1, 2, 3, 4, 5, 0, 6].getD ki 0)) := fun F => by
    refine jx_lI_e k0 (nI_pos' (by omega)) ?_ F
    rw [nI_clamp (by omega)]
    match ki, c2 with
    | 0, _ => rfl
    | 1, _ => rfl
    | 2, _ => rfl
    | 3, _ => rfl
    | 4, _ => rfl
    | 5, _ => rfl
    | 6, _ => rfl
  have fin : ∀ {Y X : jx_R} {ok' : Int32 → mm_T → Prop} {no : Int32 → Prop} {P : mm_T → Prop} {N : Prop}, bd_C h 201 Y ok' no → (∀ r M', ok' r M' → P M' ∧ ∃ n : Nat, r = nI n ∧ n < 2 ^ 30) → (∀ r, no r → N ∧ (r = -1 ∨ r = -2 ∨ r = -3 ∨ r = -4)) → X = jx_cI (fun _ _ _ => Y) 0 [] h (fun y h' => some (.inl (some (.int y)), h')) →
      (∃ n h' M', P M' ∧ n < 2 ^ 30 ∧ X = some (.inl (some (.int (nI n))), h') ∧ bd_R h' 201 M' ∧ gs_V h' 676 ∧ mz_e2 201 244 676 680 h h') ∨ (∃ e : Int32, N ∧ ¬ 0 ≤ e ∧ X = some (.inl (some (.int e)), h)) := by
    intro Y X ok' no P N B hok hno hX
    rcases B with ⟨r, ⟨M', h5, q1, q2, q3, q4⟩ | ⟨q1, q2⟩⟩
    · obtain ⟨pm, n, rfl, hn⟩ := hok r M' q1
      exact Or.inl ⟨n, h5, M', pm, hn, by rw [hX, jx_cI_e (C := fun _ _ _ => Y) q2], q3, gs_V_ag G7 (mz_ag_eq q4 (by omega)), mz_e2_l q4⟩
    · obtain ⟨pn, hr⟩ := hno r q1
      exact Or.inr ⟨r, pn, bd_neg r hr, by rw [hX, jx_cI_e (C := fun _ _ _ => Y) q2]⟩
  have E := a_125 200 (683 + 3 + 2 * i) h
  rw [jx_gA_e g1 rfl, jx_gA_e g1 rfl, jx_is_e k1, jx_cI_e e241, sw] at E
  match ki, c2, c3, E, vv, ld with
  | 0, _, c3, E, vv, ld =>
    have c3 : vs.length = 5 := c3
    refine fin (m_6 R hx (pz_v (0, vs) 0) (pz_v (0, vs) 1) (pz_v (0, vs) 2) (pz_v (0, vs) 3) (pz_v (0, vs) 4)) ?_ ?_ ?_
    · rintro r M' w
      refine ⟨⟨r, w⟩, ?_⟩
      obtain ⟨c', n', e', s', w', -, -, -, -, -, -, rfl, -⟩ := w
      exact ⟨_, rfl, by omega⟩
    · rintro r w
      refine ⟨⟨r, w⟩, ?_⟩
      rcases w with ⟨-, rfl⟩ | ⟨-, -, -, -, -, -, rfl⟩ <;> decide
    · obtain ⟨x, x1, x2⟩ := (vv 0 (by omega)).2
      have l0 : ∀ F : Int32 → jx_R, jx_lI h (683 + 4 + 2 * i) 100 0 F = F (pz_v (0, vs) 0) := ld 0 (by omega) (by omega)
      have l1 : ∀ F : Int32 → jx_R, jx_lI h (683 + 4 + 2 * i) 100 1 F = F (pz_v (0, vs) 1) := ld 1 (by omega) (by omega)
      have l2 : ∀ F : Int32 → jx_R, jx_lI h (683 + 4 + 2 * i) 100 2 F = F (pz_v (0, vs) 2) := ld 2 (by omega) (by omega)
      have l3 : ∀ F : Int32 → jx_R, jx_lI h (683 + 4 + 2 * i) 100 3 F = F (pz_v (0, vs) 3) := ld 3 (by omega) (by omega)
      have l4 : ∀ F : Int32 → jx_R, jx_lI h (683 + 4 + 2 * i) 100 4 F = F (pz_v (0, vs) 4) := ld 4 (by omega) (by omega)
      rw [E, if_pos (by decide), cl_0 J, l0, l1, l2, l3, l4, cl_bis R, x2, mz_c16 (by omega)]; rfl
  | 1, _, c3, E, vv, ld =>
    have c3 : vs.length = 4 := c3
    refine fin (m_8 K R (pz_v (1, vs) 0) (pz_v (1, vs) 2) (pz_v (1, vs) 3)) ?_ ?_ ?_
    · rintro r M' w
      refine ⟨⟨r, w⟩, ?_⟩
      obtain ⟨k, i, j, -, -, -, -, -, -, -, rfl, -⟩ := w
      exact ⟨_, rfl, by have := mm_ms_le M'.2.2.2 1 (8 * i + j); omega⟩
    · rintro r w
      refine ⟨⟨r, w⟩, ?_⟩
      rcases w with ⟨-, rfl⟩ | ⟨k, -, ⟨-, rfl⟩ | ⟨i, j, -, -, -, -, -, rfl⟩⟩ <;> decide
    · have l0 : ∀ F : Int32 → jx_R, jx_lI h (683 + 4 + 2 * i) 100 0 F = F (pz_v (1, vs) 0) := ld 0 (by omega) (by omega)
      have l2 : ∀ F : Int32 → jx_R, jx_lI h (683 + 4 + 2 * i) 100 2 F = F (pz_v (1, vs) 2) := ld 2 (by omega) (by omega)
      have l3 : ∀ F : Int32 → jx_R, jx_lI h (683 + 4 + 2 * i) 100 3 F = F (pz_v (1, vs) 3) := ld 3 (by omega) (by omega)
      rw [E, if_neg (by decide), if_pos (by decide), cl_0 J, l0, l2, l3, cl_bis R]; rfl
  | 2, _, c3, E, vv, ld =>
    have c3 : vs.length = 1 := c3
    refine fin (m_10 K R (pz_v (2, vs) 0)) ?_ ?_ ?_
    · rintro r M' w
      refine ⟨⟨r, w⟩, ?_⟩
      obtain ⟨k, c, -, -, -, rfl, -⟩ := w
      exact ⟨_, rfl, by have := mm_ms_le C.1.2.2.2 1 c; omega⟩
    · rintro r w
      refine ⟨⟨r, w⟩, ?_⟩
      rcases w with ⟨-, rfl⟩ | ⟨k, -, -, rfl⟩ <;> decide
    · have l0 : ∀ F : Int32 → jx_R, jx_lI h (683 + 4 + 2 * i) 100 0 F = F (pz_v (2, vs) 0) := ld 0 (by omega) (by omega)
      rw [E, if_neg (by decide), if_neg (by decide), if_pos (by decide), cl_0 J, l0, cl_bis R]; rfl
  | 3, _, c3, E, vv, ld =>
    have c3 : vs.length = 3 := c3
    refine fin (m_11 R (pz_v (3, vs) 0) (pz_v (3, vs) 2)) ?_ ?_ ?_
    · rintro r M' w
      refine ⟨⟨r, w⟩, ?_⟩
      obtain ⟨k, t', hf, -, -, rfl, -⟩ := w
      exact ⟨_, rfl, by have := (ok.2.2 k hf.1).2.2.2.1; omega⟩
    · rintro r w
      refine ⟨⟨r, w⟩, ?_⟩
      rcases w with ⟨-, rfl⟩ | ⟨k, -, -, rfl⟩ <;> decide
    · have l0 : ∀ F : Int32 → jx_R, jx_lI h (683 + 4 + 2 * i) 100 0 F = F (pz_v (3, vs) 0) := ld 0 (by omega) (by omega)
      have l2 : ∀ F : Int32 → jx_R, jx_lI h (683 + 4 + 2 * i) 100 2 F = F (pz_v (3, vs) 2) := ld 2 (by omega) (by omega)
      rw [E, if_neg (by decide), if_neg (by decide), if_neg (by decide), if_pos (by decide), cl_0 J, l0, l2, cl_bis R]; rfl
  | 4, _, c3, E, vv, ld =>
    have c3 : vs.length = 3 := c3
    refine fin (m_12 K R (pz_v (4, vs) 0) (pz_v (4, vs) 2)) ?_ ?_ ?_
    · rintro r M' w
      refine ⟨⟨r, w⟩, ?_⟩
      obtain ⟨k, l, c, d, -, -, -, -, -, -, -, rfl, rfl⟩ := w
      exact ⟨_, rfl, by have h1 := mm_pr_le (mm_sw C.1 k l c d) 1; have h2 : (mm_sw C.1 k l c d).1 = C.1.1 := rfl; omega⟩
    · rintro r w
      refine ⟨⟨r, w⟩, ?_⟩
      rcases w with ⟨-, rfl⟩ | ⟨k, -, -, rfl⟩ | ⟨k, l, -, -, -, -, rfl⟩ <;> decide
    · have l0 : ∀ F : Int32 → jx_R, jx_lI h (683 + 4 + 2 * i) 100 0 F = F (pz_v (4, vs) 0) := ld 0 (by omega) (by omega)
      have l2 : ∀ F : Int32 → jx_R, jx_lI h (683 + 4 + 2 * i) 100 2 F = F (pz_v (4, vs) 2) := ld 2 (by omega) (by omega)
      rw [E, if_neg (by decide), if_neg (by decide), if_neg (by decide), if_neg (by decide), if_pos (by decide), cl_0 J, l0, l2, cl_bis R]; rfl
  | 5, _, c3, E, vv, ld =>
    obtain ⟨h5, r, M', q1, q2, x5, R5, G5, t5⟩ := m_41 (q := 676) K R G7 (by omega)
    refine Or.inl ⟨r, h5, M', ⟨r, q1⟩, by omega, ?_, R5, G5, t5⟩
    rw [E, if_neg (by decide), if_neg (by decide), if_neg (by decide), if_neg (by decide), if_neg (by decide), if_neg (by decide), cl_4 J, cl_0 J, cl_gis G7, jx_cI_e x5]
  | 6, _, c3, E, vv, ld =>
    have c3 : vs.length = 1 := c3
    refine fin (m_7 R (pz_v (6, vs) 0)) ?_ ?_ ?_
    · rintro r M' w
      refine ⟨⟨r, w⟩, ?_⟩
      obtain ⟨k, hf, -, rfl, -⟩ := w
      exact ⟨_, rfl, by have := ok.1; omega⟩
    · rintro r w
      refine ⟨⟨r, w⟩, ?_⟩
      rcases w with ⟨-, rfl⟩ | ⟨k, -, -, rfl⟩ <;> decide
    · have l0 : ∀ F : Int32 → jx_R, jx_lI h (683 + 4 + 2 * i) 100 0 F = F (pz_v (6, vs) 0) := ld 0 (by omega) (by omega)
      rw [E, if_neg (by decide), if_neg (by decide), if_neg (by decide), if_neg (by decide), if_neg (by decide), if_pos (by decide), cl_0 J, l0, cl_bis R]; rfl
def cl_kp (C : cl_T) (v : Int32) : cl_T := (C.1, C.2.1, C.2.2.1, C.2.2.2.1, C.2.2.2.2.1, C.2.2.2.2.2.1, v, C.2.2.2.2.2.2.2)
def cl_kc (C : cl_T) (v : Int32) : cl_T := (C.1, C.2.1, C.2.2.1, C.2.2.2.1, C.2.2.2.2.1, C.2.2.2.2.2.1, C.2.2.2.2.2.2.1, v)
theorem cl_J_k {h2 : jx_H} {C' : cl_T} (J : cl_J h nx C) (o2 : h2.1 200 = some (cl_ob C')) (e2 : mz_eq 200 201 h h2) (k1 : C'.1 = C.1) (k2 : C'.2.1 = C.2.1) (k3 : C'.2.2.1 = C.2.2.1) (k4 : C'.2.2.2.1 = C.2.2.2.1) (k6 : C'.2.2.2.2.1 = C.2.2.2.2.1) (k5 : C'.2.2.2.2.2.1 = C.2.2.2.2.2.1) : cl_J h2 nx C' :=
  cl_J_o (h1 := h) J mz_eq_rf o2 e2 (by rw [k6]; exact J.2.2.2.2.2.2.2.2.2) k1 k2 k3 k4 k5
/-- the text of commands is gone -/
def cl_N (C : cl_T) : cl_T := cl_X C (0, C.2.2.2.2.2.1.2)
theorem c_107 (K : mz_K xs h) (I : cl_I h C) (hx : C.1.2.1 + 13 < 2 ^ 30) :
    match pz_A (pz_c C.2.2.2.2.2.1.2 C.2.2.2.2.2.1.1) C.2.2.2.2.2.1.1 12 0 with
    | .inl e => ∃ h', jx_A 107 [.ref 200] h = some (.inr eIA, jx_thr h') ∧ cl_I h' (cl_kp (cl_N C) (nI e)) ∧ mz_eq 200 711 h h'
    | .inr l => (∃ M' h', ex_l C.1 l M' ∧ jx_A 107 [.ref 200] h = some (.inl (some (.int (nI l.length))), h') ∧ cl_I h' (cl_push (cl_M (cl_N C) M') C.1) ∧ mz_eq 200 711 h h') ∨
        (∃ j h', ex_f C.1 l j ∧ jx_A 107 [.ref 200] h = some (.inr eUO, jx_thr h') ∧ cl_I h' (cl_kc (cl_N C) (nI j)) ∧ mz_eq 200 711 h h') := by
  obtain ⟨nx, J⟩ := I
  obtain ⟨po, cc, ty, kw, va, G, hty⟩ := J.2.2.2.2.2.2.2.2.1
  have ec : pz_c C.2.2.2.2.2.1.2 C.2.2.2.2.2.1.1 = pz_c ty C.2.2.2.2.2.1.1 := by
    funext i
    unfold pz_c
    by_cases c : i < C.2.2.2.2.2.1.1
    · rw [if_pos c, if_pos c, hty i c]
    · rw [if_neg c, if_neg c]
  rw [ec]
  have r1 := m_52 K G
  have X0 : ∀ {u : jx_H} {p c : Nat} {kw va} (G1 : sc_I u 683 C.2.2.2.2.2.1.1 p c ty kw va) (t1 : mz_eq 683 710 h u), ∃ u', jx_A 51 [.ref 683] u = some (.inl none, u') ∧ sc_I u' 683 0 p c ty kw va ∧ cl_J u' nx (cl_N C) ∧ cl_J u nx C ∧ mz_eq 683 710 h u' := by
    intro u p c kw va G1 t1
    obtain ⟨u', x2, G2, t2⟩ := m_51 G1
    have T := mz_eq_tr t1 t2
    exact ⟨u', x2, G2, cl_J_x J ⟨_, _, _, _, _, G2, fun i hi => absurd hi (Nat.not_lt_zero _)⟩ T, cl_J_x J (tl := C.2.2.2.2.2.1.1) (tx := C.2.2.2.2.2.1.2) ⟨_, _, _, _, _, G1, hty⟩ t1, T⟩
  cases z : pz_A (pz_c ty C.2.2.2.2.2.1.1) C.2.2.2.2.2.1.1 12 0 with
  | inl e =>
    rw [z] at r1
    obtain ⟨h1, kw1, va1, e1, G1, t1, x1⟩ := r1
    obtain ⟨h2, x2, G2, J2, J1, T⟩ := X0 G1 t1
    obtain ⟨h3, x3, o3, t3⟩ : ∃ h3, (∀ F, jx_pt h2 200 7 9 (.int (nI e)) F = F h3) ∧ h3.1 200 = some (cl_ob (cl_kp (cl_N C) (nI e))) ∧ mz_eq 200 201 h2 h3 :=
      ⟨_, fun F => jx_pt_e J2.1 (by decide) (by show 9 < 11; decide) F, mz_set_e, mz_eq_st (by omega) (by omega)⟩
    refine ⟨h3, ?_, ⟨nx, cl_J_k J2 o3 t3 rfl rfl rfl rfl rfl rfl⟩, mz_eq_tr (mz_eq_wd T (by omega) (by omega)) (mz_eq_wd t3 (by omega) (by omega))⟩
    rw [a_107, cl_6 J, sc_is G, jx_cI_e x1, cl_6 J1, sc_is G1, jx_cV_e x2, if_pos rfl, cl_6 J2, sc_2 G2, x3]
  | inr l =>
    rw [z] at r1
    obtain ⟨h1, po1, kw1, va1, l12, G1, ck, t1, x1⟩ := r1
    obtain ⟨h2, x2, G2, J2, J1, T⟩ := X0 G1 t1
    obtain ⟨h3, x3, J3, R3, t3⟩ := cl_prep J2
    have hnx : nx < 9 := J2.2.2.2.1.2.2.1
    have T3 : mz_eq 200 711 h h3 := mz_eq_tr (mz_eq_wd T (by omega) (by omega)) (mz_eq_wd t3 (by omega) (by omega))
    have E : jx_A 107 [.ref 200] h = jx_E 107 54 [.ref 200, .int 1, .int (nI 0)] [] h3 := by
      rw [a_107, cl_6 J, sc_is G, jx_cI_e x1, cl_6 J1, sc_is G1, jx_cV_e x2, if_neg (by decide), cl_3 J2, cl_0 J2, cl_his J2.2.2.2.1, jx_cV_e x3]; rfl
    dsimp only
    rw [E]
    refine mz_inv (γ := jx_H × mm_T) (fun i z => jx_E 107 54 [.ref 200, .int 1, .int (nI i)] [] z.1)
      (fun i z => (∀ M', ex_l z.2 (l.drop i) M' → ex_l C.1 l M') ∧ (∀ j, ex_f z.2 (l.drop i) j → ex_f C.1 l (i + j)) ∧ cl_J z.1 nx (cl_M (cl_N C) z.2) ∧ bd_R z.1 (289 + 43 * nx) C.1 ∧ sc_I z.1 683 0 po1 l.length ty kw1 va1 ∧ z.2.2.1 ≤ C.1.2.1 + i ∧ mz_eq 200 711 h z.1) l.length
      (fun X => (∃ M' h', ex_l C.1 l M' ∧ X = some (.inl (some (.int (nI l.length))), h') ∧ cl_I h' (cl_push (cl_M (cl_N C) M') C.1) ∧ mz_eq 200 711 h h') ∨
        (∃ j h', ex_f C.1 l j ∧ X = some (.inr eUO, jx_thr h') ∧ cl_I h' (cl_kc (cl_N C) (nI j)) ∧ mz_eq 200 711 h h')) ?_ ?_ 0 (h3, C.1) (Nat.zero_le _) ⟨fun M' w => w, fun j w => by rw [Nat.zero_add]; exact w, J3, R3, sc_ag G2 (mz_ag_eq t3 (by omega)), Nat.le_refl _, T3⟩
    · rintro ⟨u, M⟩ ⟨i1, i2, i3, i4, i5, i6, i7⟩
      dsimp only at i1 i2 i3 i4 i5 i6 i7 ⊢
      rw [List.drop_length] at i1
      obtain ⟨h7, x7, J7, t7⟩ := cl_settle i3 i4 (r := l.length) (by omega)
      refine Or.inl ⟨M, h7, i1 M rfl, ?_, ⟨_, J7⟩, mz_eq_tr i7 (mz_eq_wd t7 (by omega) (by omega))⟩
      rw [b_107_54, cl_6 i3, sc_4 i5, if_pos (nI_le (Nat.le_refl _) (by omega)), cl_6 i3, sc_4 i5, cl_is i3, jx_cI_e x7]
    · rintro i ⟨u, M⟩ hi ⟨i1, i2, i3, i4, i5, i6, i7⟩
      dsimp only at i1 i2 i3 i4 i5 i6 i7 ⊢
      obtain ⟨q, hq⟩ : ∃ q, l[i]? = some q := ⟨_, List.getElem?_eq_getElem hi⟩
      have dq : l.drop i = q :: l.drop (i + 1) := by
        rw [List.drop_eq_getElem_cons hi]
        congr 1
        exact (Option.some.inj ((List.getElem?_eq_getElem hi).symm.trans hq))
      rw [dq] at i1 i2
      have Ku := mz_K_eq K i7 (by decide)
      have E2 : jx_E 107 54 [.ref 200, .int 1, .int (nI i)] [] u = jx_cI jx_A 125 [.ref 200, .ref (683 + 3 + 2 * i)] u (fun y13 h12 => if 0 ≤ y13 then (jx_E 107 54 [.ref 200, .int 1, .int (nI (i + 1))] [] h12) else (jx_gA h12 200 7 0 (fun a14 => jx_gA h12 200 7 3 (fun a15 => jx_is h12 a15 5 (jx_cA jx_A 44 [.ref a15] h12 (fun a17 h16 => jx_is h16 a14 0 (jx_cV jx_A 1 [.ref a14, .ref a17] h16 (fun h18 => jx_pt h18 200 7 10 (.int (nI i)) (fun h19 => some (.inr "java/lang/UnsupportedOperationException", jx_thr h19)))))))))) := by
        rw [b_107_54, cl_6 i3, sc_4 i5, if_neg (nI_ge hi (by omega)), cl_6 i3, sc_3 i5, mz_lA i5.2.2.1 (by omega) (by decide) rfl, cl_is i3, nI_1]
      rcases m_125 Ku i3 i5 (show (cl_M (cl_N C) M).1.2.1 + 1 < 2 ^ 30 from (by show M.2.1 + 1 < 2 ^ 30; omega)) (show i < 12 by omega) (ck i q hq) with ⟨n, h5, M1, w1, w2, x5, R5, G5, t5⟩ | ⟨e, w1, w2, x5⟩
      · right
        have w1 : ex_ok M q M1 := w1
        refine ⟨(h5, M1), ⟨fun M' w => i1 M' ⟨M1, w1, w⟩, fun j w => ?_, (show cl_J h5 nx (cl_M (cl_M (cl_N C) M) M1) from cl_J_bg i3 R5 G5 t5), bd_R_ag i4 (fun q a b => t5.1 q (by omega) (by omega)), sc_ag i5 (fun q a b => t5.1 q (by omega) (by omega)), ?_, mz_eq_tr i7 (mz_e2_eq t5 (by omega) (by omega) (by omega) (by omega))⟩, ?_⟩
        · dsimp only at w
          rw [show i + 1 + j = i + (j + 1) by omega]
          exact i2 (j + 1) ⟨M1, w1, w⟩
        · dsimp only
          have := ex_nx w1
          omega
        · dsimp only
          rw [E2, jx_cI_e x5, if_pos (nI_pos' (by omega))]
      · left
        right
        obtain ⟨h6, x6, R6, t6⟩ := m_1 (a := 201) i4 (bd_R_V i3.2.1) (by omega)
        have J6 := cl_J_b i3 R6 t6
        obtain ⟨h7, x7, o7, t7⟩ : ∃ h7, (∀ F, jx_pt h6 200 7 10 (.int (nI i)) F = F h7) ∧ h7.1 200 = some (cl_ob (cl_kc (cl_N C) (nI i))) ∧ mz_eq 200 201 h6 h7 :=
          ⟨_, fun F => jx_pt_e J6.1 (by decide) (by show 10 < 11; decide) F, mz_set_e, mz_eq_st (by omega) (by omega)⟩
        refine ⟨i, h7, ?_, ?_, ⟨nx, cl_J_k J6 o7 t7 rfl rfl rfl rfl rfl rfl⟩, mz_eq_tr i7 (mz_eq_tr (mz_eq_wd t6 (by omega) (by omega)) (mz_eq_wd t7 (by omega) (by omega)))⟩
        · have := i2 0 w1
          rwa [Nat.add_zero] at this
        · rw [E2, jx_cI_e x5, if_neg w2, cl_0 i3, cl_3 i3, cl_his i3.2.2.2.1, jx_cA_e (m_44 i3.2.2.2.1), cl_bis i3.2.1, jx_cV_e x6, x7]
end CL
end JX
