/-! Each call has one outcome only. -/
section JX
theorem mm_fd_u {M : mm_T} {v : Int32} {o o' : Option Nat} (h : mm_fd M v o) (h' : mm_fd M v o') : o = o' := by
  cases o with
  | none =>
    cases o' with
    | none => rfl
    | some k => exact absurd h'.2.1 (h k h'.1)
  | some k =>
    cases o' with
    | none => exact absurd h.2.1 (h' k h.1)
    | some k' =>
      by_cases c : k < k'
      · exact absurd h.2.1 (h'.2.2 k c)
      · by_cases d : k' < k
        · exact absurd h'.2.1 (h.2.2 k' d)
        · rw [show k = k' by omega]
theorem mm_fd_s {M : mm_T} {v : Int32} {k k' : Nat} (h : mm_fd M v (some k)) (h' : mm_fd M v (some k')) : k = k' := Option.some.inj (mm_fd_u h h')
theorem mm_fd_x {M : mm_T} {v : Int32} {k : Nat} (h : mm_fd M v (some k)) (h' : mm_fd M v none) : False := by
  have := mm_fd_u h h'
  cases this
theorem q_rng_u {v : Int32} {N : Nat} (hN : N < 1000) {o o' : Option Nat} (h : q_rng v N o) (h' : q_rng v N o') : o = o' := by
  cases o with
  | none =>
    cases o' with
    | none => rfl
    | some k => exact absurd h'.1 (h k h'.2)
  | some k =>
    cases o' with
    | none => exact absurd h.1 (h' k h.2)
    | some k' =>
      have e : nI k = nI k' := h.1.symm.trans h'.1
      have a := h.2
      have b := h'.2
      rw [(nI_eq (by omega) (by omega)).mp e]
theorem mm_lo_le (n : Nat) (F : Nat → fg_T) : mz_su (fun k => (!fg_on (F k)).toNat) n ≤ n * 1 := mz_su_le (fun k _ => by cases fg_on (F k) <;> decide)
theorem mm_gr_u {n : Nat} {F : Nat → fg_T} {tw : Nat → Int} {r : Int32} (hn : n ≤ 20) {o o' : Option Nat} (h : mm_gr n F tw r o) (h' : mm_gr n F tw r o') : o = o' := by
  cases o with
  | none =>
    cases o' with
    | none => rfl
    | some k => exact absurd ⟨h'.2.1, h'.2.2⟩ (h k h'.1)
  | some k =>
    cases o' with
    | none => exact absurd ⟨h.2.1, h.2.2⟩ (h' k h.1)
    | some k' =>
      have l := mm_lo_le n F
      have a := rk_lt (n := n) (P := fun j => !fg_on (F j)) (rk_Ow tw) h.1 (by rw [h.2.1]; rfl)
      have b := rk_lt (n := n) (P := fun j => !fg_on (F j)) (rk_Ow tw) h'.1 (by rw [h'.2.1]; rfl)
      have e : nI (rk_n n (fun j => !fg_on (F j)) (rk_w tw) k) = nI (rk_n n (fun j => !fg_on (F j)) (rk_w tw) k') := h.2.2.trans h'.2.2.symm
      rw [rk_inj (rk_Ow tw) h.1 h'.1 (by rw [h.2.1]; rfl) (by rw [h'.2.1]; rfl) ((nI_eq (by omega) (by omega)).mp e)]
theorem bd_tr_u {n : Nat} {F : Nat → fg_T} {v : Int32} (hn : n ≤ 20) {o o' : Option Nat} (h : bd_tr n F v o) (h' : bd_tr n F v o') : o = o' := by
  cases o with
  | none =>
    cases o' with
    | none => rfl
    | some k => exact absurd ⟨h'.2.1, h'.2.2⟩ (h k h'.1)
  | some k =>
    cases o' with
    | none => exact absurd ⟨h.2.1, h.2.2⟩ (h' k h.1)
    | some k' =>
      have l := mm_lo_le n F
      have a := rk_lt (n := n) (P := fun j => !fg_on (F j)) rk_Ob h.1 (by rw [h.2.1]; rfl)
      have b := rk_lt (n := n) (P := fun j => !fg_on (F j)) rk_Ob h'.1 (by rw [h'.2.1]; rfl)
      have e := h.2.2.trans h'.2.2.symm
      rw [← rk_tr (P := fun j => !fg_on (F j)) h.1, ← rk_tr (P := fun j => !fg_on (F j)) h'.1] at e
      rw [rk_inj rk_Ob h.1 h'.1 (by rw [h.2.1]; rfl) (by rw [h'.2.1]; rfl) ((nI_eq (by omega) (by omega)).mp e)]
theorem mm_gd_u {M : mm_T} {v : Int32} {o o' : Option (Nat × Nat)} (h : mm_gd M v o) (h' : mm_gd M v o') : o = o' := by
  have bad : ∀ {q : Nat × Nat}, mm_gd M v (some q) → mm_gd M v none → False := by
    intro q a b
    rcases b with b | ⟨k, b1, b2⟩
    · exact mm_fd_x a.1 b
    · have e := mm_fd_s a.1 b1
      have : fg_ce (M.2.2.1 k) = q.2 + 1 := by rw [← e]; exact a.2.1
      have := fg_on_0.mp b2
      omega
  cases o with
  | none =>
    cases o' with
    | none => rfl
    | some q => exact (bad h' h).elim
  | some q =>
    cases o' with
    | none => exact (bad h h').elim
    | some q' =>
      have e := mm_fd_s h.1 h'.1
      have a := h.2.1
      have b := h'.2.1
      rw [e] at a
      have e2 : q.2 = q'.2 := by omega
      exact congrArg some (Prod.ext e e2)
/-- a question's answer is one -/
def Fs (sp : q_O → Prop) : Prop := ∀ o o', sp o → sp o' → o = o'
section FS
variable {M : mm_T}
theorem Fs_tray (hn : M.1 ≤ 20) (v : Int32) : Fs (sp_tray M v) := by
  rintro o o' ⟨t, a, rfl⟩ ⟨t', a', rfl⟩
  rw [bd_tr_u hn a a']
theorem Fs_ex (v : Int32) : Fs (sp_ex M v) := by
  rintro o o' ⟨t, a, rfl⟩ ⟨t', a', rfl⟩
  rw [mm_fd_u a a']
theorem Fs_fd (v : Int32) (w : Nat → Value) : Fs (sp_fd M v w) := by
  rintro o o' ⟨t, a, rfl⟩ ⟨t', a', rfl⟩
  rw [mm_fd_u a a']
theorem Fs_gd (v : Int32) (w : Nat → Nat → Value) : Fs (sp_gd M v w) := by
  rintro o o' ⟨t, a, rfl⟩ ⟨t', a', rfl⟩
  rw [mm_gd_u a a']
theorem Fs_edge (v s : Int32) : Fs (sp_edge M v s) := by
  rintro o o' ⟨t, a, q⟩ ⟨t', a', q'⟩
  have e := mm_fd_u a a'
  subst e
  cases t with
  | none => exact q.trans q'.symm
  | some k =>
    obtain ⟨u, b, rfl⟩ := q
    obtain ⟨u', b', rfl⟩ := q'
    rw [q_rng_u (by decide) b b']
theorem Fs_fits (v s : Int32) : Fs (sp_fits M v s) := by
  rintro o o' ⟨t, a, q⟩ ⟨t', a', q'⟩
  have e := mm_gd_u a a'
  subst e
  cases t with
  | none => exact q.trans q'.symm
  | some k =>
    obtain ⟨u, b, rfl⟩ := q
    obtain ⟨u', b', rfl⟩ := q'
    rw [q_rng_u (by decide) b b']
theorem Fs_emp (y x : Int32) : Fs (sp_emp M y x) := by
  rintro o o' ⟨t, a, rfl⟩ ⟨t', a', rfl⟩
  rw [q_cell_u a a']
theorem Fs_fat (y x : Int32) : Fs (sp_fat M y x) := by
  rintro o o' ⟨t, a, rfl⟩ ⟨t', a', rfl⟩
  rw [q_cell_u a a']
theorem Fs_gap (y x : Int32) {P : Nat → q_O → Prop} (h : ∀ c, Fs (P c)) : Fs (sp_gap M y x P) := by
  rintro o o' ⟨t, a, q⟩ ⟨t', a', q'⟩
  have e := q_cell_u a a'
  subst e
  cases t with
  | none => exact q.trans q'.symm
  | some c =>
    rcases q with ⟨g1, q1⟩ | ⟨g1, q1⟩
    · rcases q' with ⟨g2, q2⟩ | ⟨g2, q2⟩
      · exact q1.trans q2.symm
      · rw [g1] at g2; cases g2
    · rcases q' with ⟨g2, q2⟩ | ⟨g2, q2⟩
      · rw [g1] at g2; cases g2
      · exact h c o o' q1 q2
theorem Fs_outl (y x : Int32) : Fs (sp_outl M y x) := Fs_gap y x (fun c o o' a b => a.trans b.symm)
theorem Fs_rank (hn : M.1 ≤ 20) (y x r : Int32) : Fs (sp_rank M y x r) := Fs_gap y x (fun c o o' a b => by
  obtain ⟨t, a1, rfl⟩ := a
  obtain ⟨t', b1, rfl⟩ := b
  rw [mm_gr_u hn a1 b1])
theorem Fs_bt (v y x : Int32) : Fs (sp_bt M v y x) := by
  rintro o o' ⟨t, a, q⟩ ⟨t', a', q'⟩
  have e := mm_fd_u a a'
  subst e
  cases t with
  | none => exact q.trans q'.symm
  | some k =>
    obtain ⟨c, b, q⟩ := q
    obtain ⟨c', b', q'⟩ := q'
    have e := q_cell_u b b'
    subst e
    cases c with
    | none => exact q.trans q'.symm
    | some c =>
      rcases q with ⟨g1, q⟩ | ⟨g1, q⟩
      · rcases q' with ⟨g2, q'⟩ | ⟨g2, q'⟩
        · exact q.trans q'.symm
        · rw [g1] at g2; cases g2
      · rcases q' with ⟨g2, q'⟩ | ⟨g2, q'⟩
        · rw [g1] at g2; cases g2
        · rcases q with ⟨g3, q⟩ | ⟨g3, q⟩
          · rcases q' with ⟨g4, q'⟩ | ⟨g4, q'⟩
            · exact q.trans q'.symm
            · rw [g3] at g4; cases g4
          · rcases q' with ⟨g4, q'⟩ | ⟨g4, q'⟩
            · rw [g3] at g4; cases g4
            · exact q.trans q'.symm
theorem Fs_wt (v y x t0 : Int32) : Fs (sp_wt M v y x t0) := by
  rintro o o' ⟨t, a, q⟩ ⟨t', a', q'⟩
  have e := mm_fd_u a a'
  subst e
  cases t with
  | none => exact q.trans q'.symm
  | some k =>
    obtain ⟨c, b, q⟩ := q
    obtain ⟨c', b', q'⟩ := q'
    have e := q_cell_u b b'
    subst e
    cases c with
    | none => exact q.trans q'.symm
    | some c =>
      obtain ⟨u, d, q⟩ := q
      obtain ⟨u', d', q'⟩ := q'
      have e := q_rng_u (by decide) d d'
      subst e
      cases u with
      | none => exact q.trans q'.symm
      | some u =>
        rcases q with ⟨g1, q⟩ | ⟨g1, q⟩
        · rcases q' with ⟨g2, q'⟩ | ⟨g2, q'⟩
          · exact q.trans q'.symm
          · rw [g1] at g2; cases g2
        · rcases q' with ⟨g2, q'⟩ | ⟨g2, q'⟩
          · rw [g1] at g2; cases g2
          · rcases q with ⟨g3, q⟩ | ⟨g3, q⟩
            · rcases q' with ⟨g4, q'⟩ | ⟨g4, q'⟩
              · exact q.trans q'.symm
              · rw [g3] at g4; cases g4
            · rcases q' with ⟨g4, q'⟩ | ⟨g4, q'⟩
              · rw [g3] at g4; cases g4
              · exact q.trans q'.symm
theorem Fs_lg : Fs (sp_lg M) := by
  rintro o o' ⟨v, a, -, rfl⟩ ⟨v', a', -, rfl⟩
  rw [mm_lg_1 a a']
theorem Fs_jf : Fs (sp_jf M) := fun o o' a b => a.trans b.symm
theorem Fs_jb : Fs (sp_jb M) := fun o o' a b => a.trans b.symm
theorem Fs_mj : Fs (sp_mj M) := fun o o' a b => a.trans b.symm
end FS
/-- a change's outcome is one -/
def Fn (ok : Int32 → mm_T → Prop) (no : Int32 → Prop) : Prop := (∀ r M r' M', ok r M → ok r' M' → r = r' ∧ M = M') ∧ (∀ r M e, ok r M → no e → False) ∧ (∀ e e', no e → no e' → e = e')
section FN
variable {M : mm_T}
theorem nI_in_u {N : Nat} (hN : N < 1000) {a b : Nat} (ha : a ≤ N) (hb : b ≤ N) (e : nI a = nI b) : a = b := (nI_eq (by omega) (by omega)).mp e
theorem Fn_add (c n e s w : Int32) : Fn (ok_add M c n e s w) (no_add M c n e s w) := by
  refine ⟨?_, ?_, ?_⟩
  · rintro r M1 r' M2 ⟨c1, n1, e1, s1, w1, ⟨rfl, a1, a2⟩, ⟨rfl, a3⟩, ⟨rfl, a4⟩, ⟨rfl, a5⟩, ⟨rfl, a6⟩, a7, rfl, rfl⟩ ⟨c2, n2, e2, s2, w2, ⟨x1, b1, b2⟩, ⟨x2, b3⟩, ⟨x3, b4⟩, ⟨x4, b5⟩, ⟨x5, b6⟩, b7, rfl, rfl⟩
    rw [nI_in_u (N := 102) (by decide) a2 b2 x1, nI_in_u (by decide) a3 b3 x2, nI_in_u (by decide) a4 b4 x3, nI_in_u (by decide) a5 b5 x4, nI_in_u (by decide) a6 b6 x5]
    exact ⟨rfl, rfl⟩
  · rintro r M1 r' ⟨c1, n1, e1, s1, w1, ⟨rfl, a1, a2⟩, ⟨rfl, a3⟩, ⟨rfl, a4⟩, ⟨rfl, a5⟩, ⟨rfl, a6⟩, a7, rfl, rfl⟩ q
    rcases q with ⟨q, -⟩ | ⟨-, -, -, -, -, q, -⟩
    · rcases q with q | q | q | q | q
      · exact q c1 a1 a2 rfl
      · exact q n1 a3 rfl
      · exact q e1 a4 rfl
      · exact q s1 a5 rfl
      · exact q w1 a6 rfl
    · omega
  · rintro r r' q q'
    have bad : ((∀ j, 97 ≤ j → j ≤ 102 → c ≠ nI j) ∨ (∀ j, j ≤ 15 → n ≠ nI j) ∨ (∀ j, j ≤ 15 → e ≠ nI j) ∨ (∀ j, j ≤ 15 → s ≠ nI j) ∨ (∀ j, j ≤ 15 → w ≠ nI j)) → (∃ j, 97 ≤ j ∧ j ≤ 102 ∧ c = nI j) ∧ (∃ j, j ≤ 15 ∧ n = nI j) ∧ (∃ j, j ≤ 15 ∧ e = nI j) ∧ (∃ j, j ≤ 15 ∧ s = nI j) ∧ (∃ j, j ≤ 15 ∧ w = nI j) → False := by
      rintro q ⟨⟨j1, a1, a2, x1⟩, ⟨j2, a3, x2⟩, ⟨j3, a4, x3⟩, ⟨j4, a5, x4⟩, ⟨j5, a6, x5⟩⟩
      rcases q with q | q | q | q | q
      · exact q j1 a1 a2 x1
      · exact q j2 a3 x2
      · exact q j3 a4 x3
      · exact q j4 a5 x4
      · exact q j5 a6 x5
    rcases q with ⟨q, rfl⟩ | ⟨z1, z2, z3, z4, z5, -, rfl⟩
    · rcases q' with ⟨q', rfl⟩ | ⟨z1, z2, z3, z4, z5, -, rfl⟩
      · rfl
      · exact (bad q ⟨z1, z2, z3, z4, z5⟩).elim
    · rcases q' with ⟨q', rfl⟩ | ⟨-, -, -, -, -, -, rfl⟩
      · exact (bad q' ⟨z1, z2, z3, z4, z5⟩).elim
      · rfl
theorem Fn_drop (v : Int32) : Fn (ok_drop M v) (no_drop M v) := by
  refine ⟨?_, ?_, ?_⟩
  · rintro r M1 r' M2 ⟨k, a1, a2, rfl, rfl⟩ ⟨k', b1, b2, rfl, rfl⟩
    rw [mm_fd_s a1 b1]; exact ⟨rfl, rfl⟩
  · rintro r M1 e ⟨k, a1, a2, rfl, rfl⟩ (⟨b1, -⟩ | ⟨k', b1, b2, -⟩)
    · exact mm_fd_x a1 b1
    · rw [mm_fd_s a1 b1, b2] at a2; cases a2
  · rintro e e' (⟨b1, rfl⟩ | ⟨k, b1, b2, rfl⟩) (⟨c1, rfl⟩ | ⟨k', c1, c2, rfl⟩)
    · rfl
    · exact (mm_fd_x c1 b1).elim
    · exact (mm_fd_x b1 c1).elim
    · rfl
theorem Fn_take (v : Int32) : Fn (ok_take M v) (no_take M v) := by
  refine ⟨?_, ?_, ?_⟩
  · rintro r M1 r' M2 ⟨k, c, a1, a2, a3, rfl, rfl⟩ ⟨k', c', b1, b2, b3, rfl, rfl⟩
    have e := mm_fd_s a1 b1
    subst e
    have e : c = c' := by omega
    subst e
    exact ⟨rfl, rfl⟩
  · rintro r M1 e ⟨k, c, a1, a2, a3, rfl, rfl⟩ (⟨b1, -⟩ | ⟨k', b1, b2, -⟩)
    · exact mm_fd_x a1 b1
    · have := fg_on_0.mp b2
      rw [← mm_fd_s a1 b1] at this
      omega
  · rintro e e' (⟨b1, rfl⟩ | ⟨k, b1, b2, rfl⟩) (⟨c1, rfl⟩ | ⟨k', c1, c2, rfl⟩)
    · rfl
    · exact (mm_fd_x c1 b1).elim
    · exact (mm_fd_x b1 c1).elim
    · rfl
theorem Fn_turn (v t : Int32) : Fn (ok_turn M v t) (no_turn M v t) := by
  refine ⟨?_, ?_, ?_⟩
  · rintro r M1 r' M2 ⟨k, t1, a1, rfl, a3, rfl, rfl⟩ ⟨k', t2, b1, x, b3, rfl, rfl⟩
    have e := mm_fd_s a1 b1
    subst e
    rw [nI_in_u (by decide) a3 b3 x]
    exact ⟨rfl, rfl⟩
  · rintro r M1 e ⟨k, t1, a1, rfl, a3, rfl, rfl⟩ (⟨b1, -⟩ | ⟨k', b1, b2, -⟩)
    · exact mm_fd_x a1 b1
    · exact b2 t1 a3 rfl
  · rintro e e' (⟨b1, rfl⟩ | ⟨k, b1, b2, rfl⟩) (⟨c1, rfl⟩ | ⟨k', c1, c2, rfl⟩)
    · rfl
    · exact (mm_fd_x c1 b1).elim
    · exact (mm_fd_x b1 c1).elim
    · rfl
theorem Fn_put (v y x : Int32) : Fn (ok_put M v y x) (no_put M v y x) := by
  refine ⟨?_, ?_, ?_⟩
  · rintro r M1 r' M2 ⟨k, i, j, a1, rfl, a2, rfl, a3, a4, a5, rfl, rfl⟩ ⟨k', i', j', b1, x1, b2, x2, b3, b4, b5, rfl, rfl⟩
    have e := mm_fd_s a1 b1
    subst e
    have e := nI_in_u (by decide) a2 b2 x1
    subst e
    have e := nI_in_u (by decide) a3 b3 x2
    subst e
    exact ⟨rfl, rfl⟩
  · rintro r M1 e ⟨k, i, j, a1, rfl, a2, rfl, a3, a4, a5, rfl, rfl⟩ (⟨b1, -⟩ | ⟨k', b1, ⟨b2, -⟩ | ⟨i', j', x1, b2, x2, b3, b4, -⟩⟩)
    · exact mm_fd_x a1 b1
    · rcases b2 with b2 | b2
      · exact b2 i a2 rfl
      · exact b2 j a3 rfl
    · have e := mm_fd_s a1 b1
      subst e
      have e := nI_in_u (by decide) a2 b2 x1
      subst e
      have e := nI_in_u (by decide) a3 b3 x2
      subst e
      rcases b4 with b4 | b4
      · rw [a4] at b4; cases b4
      · rw [a5] at b4; cases b4
  · rintro e e' (⟨b1, rfl⟩ | ⟨k, b1, ⟨b2, rfl⟩ | ⟨i, j, x1, b2, x2, b3, b4, rfl⟩⟩) (⟨c1, rfl⟩ | ⟨k', c1, ⟨c2, rfl⟩ | ⟨i', j', y1, c2, y2, c3, c4, rfl⟩⟩)
    · rfl
    · exact (mm_fd_x c1 b1).elim
    · exact (mm_fd_x c1 b1).elim
    · exact (mm_fd_x b1 c1).elim
    · rfl
    · rcases b2 with b2 | b2
      · exact (b2 i' c2 y1).elim
      · exact (b2 j' c3 y2).elim
    · exact (mm_fd_x b1 c1).elim
    · rcases c2 with c2 | c2
      · exact (c2 i b2 x1).elim
      · exact (c2 j b3 x2).elim
    · rfl
theorem Fn_swap (v w : Int32) : Fn (ok_swap M v w) (no_swap M v w) := by
  refine ⟨?_, ?_, ?_⟩
  · rintro r M1 r' M2 ⟨k, l, c, d, a1, a2, a3, a4, a5, a6, a7, rfl, rfl⟩ ⟨k', l', c', d', b1, b2, b3, b4, b5, b6, b7, rfl, rfl⟩
    have e := mm_fd_s a1 b1
    subst e
    have e := mm_fd_s a2 b2
    subst e
    have e : c = c' := by omega
    subst e
    have e : d = d' := by omega
    subst e
    exact ⟨rfl, rfl⟩
  · rintro r M1 e ⟨k, l, c, d, a1, a2, a3, a4, a5, a6, a7, rfl, rfl⟩ (⟨b1 | b1, -⟩ | ⟨k', b1, b2, -⟩ | ⟨k', l', b1, b2, b3, b4, -⟩)
    · exact mm_fd_x a1 b1
    · exact mm_fd_x a2 b1
    · exact a3 ((mm_fd_s a1 b1).trans (mm_fd_s a2 b2).symm)
    · have e := mm_fd_s a1 b1
      subst e
      have e := mm_fd_s a2 b2
      subst e
      rcases b4 with b4 | b4
      · have := fg_on_0.mp b4; omega
      · have := fg_on_0.mp b4; omega
  · rintro e e' (⟨b1, rfl⟩ | ⟨k, b1, b2, rfl⟩ | ⟨k, l, b1, b2, b3, b4, rfl⟩) (⟨c1, rfl⟩ | ⟨k', c1, c2, rfl⟩ | ⟨k', l', c1, c2, c3, c4, rfl⟩)
    · rfl
    · rcases b1 with b1 | b1
      · exact (mm_fd_x c1 b1).elim
      · exact (mm_fd_x c2 b1).elim
    · rcases b1 with b1 | b1
      · exact (mm_fd_x c1 b1).elim
      · exact (mm_fd_x c2 b1).elim
    · rcases c1 with c1 | c1
      · exact (mm_fd_x b1 c1).elim
      · exact (mm_fd_x b2 c1).elim
    · rfl
    · exact (c3 ((mm_fd_s c1 b1).trans (mm_fd_s c2 b2).symm)).elim
    · rcases c1 with c1 | c1
      · exact (mm_fd_x b1 c1).elim
      · exact (mm_fd_x b2 c1).elim
    · exact (b3 ((mm_fd_s b1 c1).trans (mm_fd_s b2 c2).symm)).elim
    · rfl
theorem ok_pg_u (hn : M.1 ≤ 20) {y x r r' : Int32} {M1 M2 : mm_T} (a : ok_pg M y x r M1) (b : ok_pg M y x r' M2) : r = r' ∧ M1 = M2 := by
  obtain ⟨c, k, a1, a2, a3, rfl, rfl⟩ := a
  obtain ⟨c', k', b1, b2, b3, rfl, rfl⟩ := b
  have e := Option.some.inj (q_cell_u a1 b1)
  subst e
  have e := Option.some.inj (mm_gr_u hn a3 b3)
  subst e
  exact ⟨rfl, rfl⟩
theorem ok_pg_x (hn : M.1 ≤ 20) {y x r : Int32} {s : String} {M1 : mm_T} (a : ok_pg M y x r M1) (b : no_pg M y x s) : False := by
  obtain ⟨c, k, a1, a2, a3, rfl, rfl⟩ := a
  rcases b with ⟨b1, -⟩ | ⟨c', b1, ⟨b2, -⟩ | ⟨b2, b3, -⟩⟩
  · have := q_cell_u a1 b1; cases this
  · have e := Option.some.inj (q_cell_u a1 b1)
    subst e
    rw [a2] at b2; cases b2
  · have e := Option.some.inj (q_cell_u a1 b1)
    subst e
    have := mm_gr_u hn a3 b3
    cases this
theorem no_pg_u {y x : Int32} {s s' : String} (a : no_pg M y x s) (b : no_pg M y x s') : s = s' := by
  rcases a with ⟨a1, rfl⟩ | ⟨c, a1, ⟨a2, rfl⟩ | ⟨a2, a3, rfl⟩⟩
  · rcases b with ⟨b1, rfl⟩ | ⟨c', b1, -⟩
    · rfl
    · have := q_cell_u a1 b1; cases this
  · rcases b with ⟨b1, rfl⟩ | ⟨c', b1, ⟨b2, rfl⟩ | ⟨b2, b3, rfl⟩⟩
    · have := q_cell_u a1 b1; cases this
    · rfl
    · have e := Option.some.inj (q_cell_u a1 b1)
      subst e
      rw [a2] at b2; cases b2
  · rcases b with ⟨b1, rfl⟩ | ⟨c', b1, ⟨b2, rfl⟩ | ⟨b2, b3, rfl⟩⟩
    · have := q_cell_u a1 b1; cases this
    · have e := Option.some.inj (q_cell_u a1 b1)
      subst e
      rw [a2] at b2; cases b2
    · rfl
theorem mm_fl_u : ∀ (m : Nat) {M M1 M2 : mm_T} {r r' : Nat}, M.1 ≤ 20 → mm_fl m M r M1 → mm_fl m M r' M2 → r = r' ∧ M1 = M2
  | 0, M, M1, M2, r, r', _, a, b => ⟨a.1.trans b.1.symm, a.2.trans b.2.symm⟩
  | m + 1, M, M1, M2, r, r', hn, a, b => by
    rcases a with ⟨a1, rfl, rfl⟩ | ⟨c, k, s, a1, a2, a3, rfl, a4⟩
    · rcases b with ⟨b1, rfl, rfl⟩ | ⟨c', k', s', b1, b2, b3, rfl, b4⟩
      · exact ⟨rfl, rfl⟩
      · rw [a1] at b2; omega
    · rcases b with ⟨b1, rfl, rfl⟩ | ⟨c', k', s', b1, b2, b3, rfl, b4⟩
      · rw [b1] at a2; omega
      · have e : c = c' := by rw [a2] at b2; omega
        subst e
        have e := Option.some.inj (mm_gr_u hn a3 b3)
        subst e
        obtain ⟨e1, e2⟩ := mm_fl_u m (M := mm_pg M k c) hn a4 b4
        exact ⟨by rw [e1], e2⟩
theorem mm_fl_n : ∀ (m : Nat) {M M1 : mm_T} {r : Nat}, mm_fl m M r M1 → M1.1 = M.1
  | 0, M, M1, r, a => by rw [a.2]
  | m + 1, M, M1, r, a => by
    rcases a with ⟨-, -, rfl⟩ | ⟨c, k, s, -, -, -, -, a4⟩
    · rfl
    · exact mm_fl_n m (M := mm_pg M k c) a4
theorem ex_n {M M' : mm_T} {q : Nat × List Nat} (hn : M.1 ≤ 20) (h : ex_ok M q M') : M'.1 ≤ 20 := by
  unfold ex_ok at h
  split at h
  · obtain ⟨r, c', n', e', s', w', -, -, -, -, -, l, -, rfl⟩ := h; exact l
  · obtain ⟨r, k, i, j, -, -, -, -, -, -, -, -, rfl⟩ := h; exact hn
  · obtain ⟨r, k, c, -, -, -, -, rfl⟩ := h; exact hn
  · obtain ⟨r, k, t', -, -, -, -, rfl⟩ := h; exact hn
  · obtain ⟨r, k, l, c, d, -, -, -, -, -, -, -, -, rfl⟩ := h; exact hn
  · obtain ⟨r, h⟩ := h; rw [mm_fl_n 20 h]; exact hn
  · obtain ⟨r, k, -, -, -, rfl⟩ := h; exact Nat.le_trans (Nat.sub_le _ _) hn
theorem ex_u {M M1 M2 : mm_T} {q : Nat × List Nat} (hn : M.1 ≤ 20) (a : ex_ok M q M1) (b : ex_ok M q M2) : M1 = M2 := by
  obtain ⟨k, l⟩ := q
  match k, a, b with
  | 0, ⟨r, a⟩, ⟨r', b⟩ => exact ((Fn_add _ _ _ _ _).1 _ _ _ _ a b).2
  | 1, ⟨r, a⟩, ⟨r', b⟩ => exact ((Fn_put _ _ _).1 _ _ _ _ a b).2
  | 2, ⟨r, a⟩, ⟨r', b⟩ => exact ((Fn_take _).1 _ _ _ _ a b).2
  | 3, ⟨r, a⟩, ⟨r', b⟩ => exact ((Fn_turn _ _).1 _ _ _ _ a b).2
  | 4, ⟨r, a⟩, ⟨r', b⟩ => exact ((Fn_swap _ _).1 _ _ _ _ a b).2
  | 5, ⟨r, a⟩, ⟨r', b⟩ => exact (mm_fl_u 20 hn a b).2
  | k + 6, ⟨r, a⟩, ⟨r', b⟩ => exact ((Fn_drop _).1 _ _ _ _ a b).2
theorem ex_x {M M1 : mm_T} {q : Nat × List Nat} (a : ex_ok M q M1) (b : ex_no M q) : False := by
  obtain ⟨k, l⟩ := q
  match k, a, b with
  | 0, ⟨r, a⟩, ⟨r', b⟩ => exact (Fn_add _ _ _ _ _).2.1 _ _ _ a b
  | 1, ⟨r, a⟩, ⟨r', b⟩ => exact (Fn_put _ _ _).2.1 _ _ _ a b
  | 2, ⟨r, a⟩, ⟨r', b⟩ => exact (Fn_take _).2.1 _ _ _ a b
  | 3, ⟨r, a⟩, ⟨r', b⟩ => exact (Fn_turn _ _).2.1 _ _ _ a b
  | 4, ⟨r, a⟩, ⟨r', b⟩ => exact (Fn_swap _ _).2.1 _ _ _ a b
  | 5, _, b => exact b
  | k + 6, ⟨r, a⟩, ⟨r', b⟩ => exact (Fn_drop _).2.1 _ _ _ a b
theorem ex_l_u : ∀ (l : List (Nat × List Nat)) {M M1 M2 : mm_T}, M.1 ≤ 20 → ex_l M l M1 → ex_l M l M2 → M1 = M2
  | [], M, M1, M2, _, a, b => (show M1 = M from a).trans (show M2 = M from b).symm
  | q :: l, M, M1, M2, hn, ⟨A, a1, a2⟩, ⟨B, b1, b2⟩ => by
    have e := ex_u hn a1 b1
    subst e
    exact ex_l_u l (ex_n hn a1) a2 b2
theorem ex_l_n : ∀ (l : List (Nat × List Nat)) {M M1 : mm_T}, M.1 ≤ 20 → ex_l M l M1 → M1.1 ≤ 20
  | [], M, M1, hn, a => by rw [show M1 = M from a]; exact hn
  | q :: l, M, M1, hn, ⟨A, a1, a2⟩ => ex_l_n l (ex_n hn a1) a2
theorem ex_l_nx : ∀ (l : List (Nat × List Nat)) {M M1 : mm_T}, ex_l M l M1 → M1.2.1 ≤ M.2.1 + l.length
  | [], M, M1, a => by rw [show M1 = M from a]; exact Nat.le_refl _
  | q :: l, M, M1, ⟨A, a1, a2⟩ => by
    have := ex_l_nx l a2
    have := ex_nx a1
    show M1.2.1 ≤ M.2.1 + (l.length + 1)
    omega
theorem ex_f_u : ∀ (l : List (Nat × List Nat)) {M : mm_T} {i j : Nat}, M.1 ≤ 20 → ex_f M l i → ex_f M l j → i = j
  | [], M, i, j, _, a, _ => a.elim
  | q :: l, M, 0, 0, _, _, _ => rfl
  | q :: l, M, 0, j + 1, _, a, ⟨B, b1, _⟩ => (ex_x b1 a).elim
  | q :: l, M, i + 1, 0, _, ⟨A, a1, _⟩, b => (ex_x a1 b).elim
  | q :: l, M, i + 1, j + 1, hn, ⟨A, a1, a2⟩, ⟨B, b1, b2⟩ => by
    have e := ex_u hn a1 b1
    subst e
    rw [ex_f_u l (ex_n hn a1) a2 b2]
theorem ex_lf_x : ∀ (l : List (Nat × List Nat)) {M M1 : mm_T} {j : Nat}, M.1 ≤ 20 → ex_l M l M1 → ex_f M l j → False
  | [], M, M1, j, _, _, b => b
  | q :: l, M, M1, 0, _, ⟨A, a1, _⟩, b => ex_x a1 b
  | q :: l, M, M1, j + 1, hn, ⟨A, a1, a2⟩, ⟨B, b1, b2⟩ => by
    have e := ex_u hn a1 b1
    subst e
    exact ex_lf_x l (ex_n hn a1) a2 b2
end FN
end JX
