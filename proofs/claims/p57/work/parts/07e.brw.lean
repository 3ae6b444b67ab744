/-! The board: single writes. -/
section JX
def mz_up {α : Type} (f : Nat → α) (k : Nat) (v : α) : Nat → α := fun i => if i = k then v else f i
theorem mz_up_s {α : Type} {f : Nat → α} {k : Nat} {v : α} : mz_up f k v k = v := by unfold mz_up; rw [if_pos rfl]
theorem mz_up_n {α : Type} {f : Nat → α} {k i : Nat} {v : α} (e : i ≠ k) : mz_up f k v i = f i := by unfold mz_up; rw [if_neg e]
theorem mz_up_up {α : Type} {f : Nat → α} {k : Nat} {v w : α} : mz_up (mz_up f k v) k w = mz_up f k w := by
  funext i
  unfold mz_up
  by_cases e : i = k
  · rw [if_pos e, if_pos e]
  · rw [if_neg e, if_neg e, if_neg e]
def fg_sid (f : fg_T) (v : Nat) : fg_T := (v, f.2)
def fg_sco (f : fg_T) (v : Nat) : fg_T := (f.1, v, f.2.2)
def fg_sed (f : fg_T) (k v : Nat) : fg_T := match k with
  | 0 => (f.1, f.2.1, v, f.2.2.2)
  | 1 => (f.1, f.2.1, f.2.2.1, v, f.2.2.2.2)
  | 2 => (f.1, f.2.1, f.2.2.1, f.2.2.2.1, v, f.2.2.2.2.2)
  | _ => (f.1, f.2.1, f.2.2.1, f.2.2.2.1, f.2.2.2.2.1, v, f.2.2.2.2.2.2)
def fg_stn (f : fg_T) (v : Nat) : fg_T := (f.1, f.2.1, f.2.2.1, f.2.2.2.1, f.2.2.2.2.1, f.2.2.2.2.2.1, v, f.2.2.2.2.2.2.2)
def fg_sce (f : fg_T) (v : Nat) : fg_T := (f.1, f.2.1, f.2.2.1, f.2.2.2.1, f.2.2.2.2.1, f.2.2.2.2.2.1, f.2.2.2.2.2.2.1, v)
theorem fg_ed_sed {f : fg_T} {k v : Nat} (hk : k < 4) (j : Nat) (hj : j < 4) : fg_ed (fg_sed f k v) j = if j = k then v else fg_ed f j := by
  match k, hk, j, hj with
  | 0, _, 0, _ => rfl | 0, _, 1, _ => rfl | 0, _, 2, _ => rfl | 0, _, 3, _ => rfl
  | 1, _, 0, _ => rfl | 1, _, 1, _ => rfl | 1, _, 2, _ => rfl | 1, _, 3, _ => rfl
  | 2, _, 0, _ => rfl | 2, _, 1, _ => rfl | 2, _, 2, _ => rfl | 2, _, 3, _ => rfl
  | 3, _, 0, _ => rfl | 3, _, 1, _ => rfl | 3, _, 2, _ => rfl | 3, _, 3, _ => rfl
theorem fg_ed_hi {f : fg_T} {j : Nat} (hj : 3 ≤ j) : fg_ed f j = fg_ed f 3 := by
  match j, hj with
  | 3, _ => rfl
  | j + 4, _ => rfl
theorem fg_ok_ed {f : fg_T} (h : fg_id f < 2 ^ 30 ∧ fg_co f < 65536 ∧ (∀ k, k < 4 → fg_ed f k < 16) ∧ fg_tn f < 4 ∧ fg_ce f ≤ 64) : fg_ok f :=
  ⟨h.1, h.2.1, fun k => by
    by_cases c : k < 4
    · exact h.2.2.1 k c
    · rw [fg_ed_hi (by omega)]; exact h.2.2.1 3 (by decide), h.2.2.2⟩
theorem fg_sed_O {f : fg_T} {k v q : Nat} : fg_O q (fg_sed f k v) = fg_O q f := by
  unfold fg_sed
  split <;> rfl
theorem fg_sed_ok {f : fg_T} {k v : Nat} (h : fg_ok f) (hk : k < 4) (hv : v < 16) : fg_ok (fg_sed f k v) := by
  refine fg_ok_ed ⟨?_, ?_, fun j hj => ?_, ?_, ?_⟩
  · unfold fg_sed; split <;> exact h.1
  · unfold fg_sed; split <;> exact h.2.1
  · rw [fg_ed_sed hk j hj]
    split
    · exact hv
    · exact h.2.2.1 j
  · unfold fg_sed; split <;> exact h.2.2.2.1
  · unfold fg_sed; split <;> exact h.2.2.2.2
section BD
variable {h : jx_H} {a n nx : Nat} {p : Nat → Nat} {A : Nat → fg_T} {g : Nat → Option Nat}
theorem bd_nc (H : bd_I h a n nx p A g) : jx_nc ≤ a := H.2.2.2.2.2.2.2.2
/-- a fragment's own cell is written -/
theorem bd_sO (H : bd_I h a n nx p A g) {i : Nat} (hi : i < 20) {f : fg_T} (hf : fg_ok f) (he : fg_E f = fg_E (A i)) : bd_I (jx_set h (bd_f a i) (fg_O (bd_f a i) f)) a n nx p (mz_up A i f) g ∧ mz_eq a (a + 43) h (jx_set h (bd_f a i) (fg_O (bd_f a i) f)) := by
  obtain ⟨h1, h2, h3, h4, h5, h6, h7, h8, h9⟩ := H
  have e : bd_f a i = a + 3 + 2 * i := rfl
  refine ⟨⟨by rw [mz_set_n (by omega)]; exact h1, by rw [mz_set_n (by omega)]; exact h2, by rw [mz_set_n (by omega)]; exact h3, fun j hj => ?_, h5, h6, h7, h8, h9⟩, mz_eq_st (by omega) (by omega)⟩
  obtain ⟨k1, k2, k3⟩ := h4 j hj
  have e2 : bd_f a j = a + 3 + 2 * j := rfl
  by_cases c : j = i
  · subst c
    rw [mz_up_s, mz_set_e, mz_set_n (by omega)]
    exact ⟨rfl, by rw [he]; exact k2, hf⟩
  · rw [mz_up_n c, mz_set_n (by omega), mz_set_n (by omega)]
    exact ⟨k1, k2, k3⟩
/-- a fragment's row of edges is written -/
theorem bd_sE (H : bd_I h a n nx p A g) {i : Nat} (hi : i < 20) {f : fg_T} (hf : fg_ok f) (he : fg_O (bd_f a i) f = fg_O (bd_f a i) (A i)) : bd_I (jx_set h (bd_f a i + 1) (fg_E f)) a n nx p (mz_up A i f) g ∧ mz_eq a (a + 43) h (jx_set h (bd_f a i + 1) (fg_E f)) := by
  obtain ⟨h1, h2, h3, h4, h5, h6, h7, h8, h9⟩ := H
  have e : bd_f a i = a + 3 + 2 * i := rfl
  refine ⟨⟨by rw [mz_set_n (by omega)]; exact h1, by rw [mz_set_n (by omega)]; exact h2, by rw [mz_set_n (by omega)]; exact h3, fun j hj => ?_, h5, h6, h7, h8, h9⟩, mz_eq_st (by omega) (by omega)⟩
  obtain ⟨k1, k2, k3⟩ := h4 j hj
  have e2 : bd_f a j = a + 3 + 2 * j := rfl
  by_cases c : j = i
  · subst c
    rw [mz_up_s, mz_set_e, mz_set_n (by omega)]
    exact ⟨by rw [he]; exact k1, rfl, hf⟩
  · rw [mz_up_n c, mz_set_n (by omega), mz_set_n (by omega)]
    exact ⟨k1, k2, k3⟩
theorem bd_pid (H : bd_I h a n nx p A g) {i v : Nat} (hi : i < 20) (hv : v < 2 ^ 30) : ∃ h', (∀ F, jx_pt h (bd_f a i) 2 0 (.int (nI v)) F = F h') ∧ bd_I h' a n nx p (mz_up A i (fg_sid (A i) v)) g ∧ mz_eq a (a + 43) h h' := by
  have k := bd_ok H hi
  have q := bd_sO H hi (f := fg_sid (A i) v) ⟨hv, k.2⟩ rfl
  exact ⟨_, fun F => jx_pt_e (H.2.2.2.1 i hi).1 (by have := bd_nc H; unfold bd_f; omega) (by show 0 < 5; decide) F, q⟩
theorem bd_pco (H : bd_I h a n nx p A g) {i v : Nat} (hi : i < 20) (hv : v < 65536) : ∃ h', (∀ F, jx_pt h (bd_f a i) 2 1 (.int (nI v)) F = F h') ∧ bd_I h' a n nx p (mz_up A i (fg_sco (A i) v)) g ∧ mz_eq a (a + 43) h h' := by
  have k := bd_ok H hi
  have q := bd_sO H hi (f := fg_sco (A i) v) ⟨k.1, hv, k.2.2⟩ rfl
  exact ⟨_, fun F => jx_pt_e (H.2.2.2.1 i hi).1 (by have := bd_nc H; unfold bd_f; omega) (by show 1 < 5; decide) F, q⟩
theorem bd_ptn (H : bd_I h a n nx p A g) {i v : Nat} (hi : i < 20) (hv : v < 4) : ∃ h', (∀ F, jx_pt h (bd_f a i) 2 3 (.int (nI v)) F = F h') ∧ bd_I h' a n nx p (mz_up A i (fg_stn (A i) v)) g ∧ mz_eq a (a + 43) h h' := by
  have k := bd_ok H hi
  have q := bd_sO H hi (f := fg_stn (A i) v) ⟨k.1, k.2.1, k.2.2.1, hv, k.2.2.2.2⟩ rfl
  exact ⟨_, fun F => jx_pt_e (H.2.2.2.1 i hi).1 (by have := bd_nc H; unfold bd_f; omega) (by show 3 < 5; decide) F, q⟩
theorem bd_pce (H : bd_I h a n nx p A g) {i v : Nat} (hi : i < 20) (hv : v ≤ 64) {w : Int32} (e : w = nI v - 1) : ∃ h', (∀ F, jx_pt h (bd_f a i) 2 4 (.int w) F = F h') ∧ bd_I h' a n nx p (mz_up A i (fg_sce (A i) v)) g ∧ mz_eq a (a + 43) h h' := by
  subst e
  have k := bd_ok H hi
  have q := bd_sO H hi (f := fg_sce (A i) v) ⟨k.1, k.2.1, k.2.2.1, k.2.2.2.1, hv⟩ rfl
  exact ⟨_, fun F => jx_pt_e (H.2.2.2.1 i hi).1 (by have := bd_nc H; unfold bd_f; omega) (by show 4 < 5; decide) F, q⟩
theorem bd_ped (H : bd_I h a n nx p A g) {i k v : Nat} (hi : i < 20) (hk : k < 4) (hv : v < 16) : ∃ h', (∀ F, jx_st h (bd_f a i + 1) 100 (nI k) (.int (nI v)) F = F h') ∧ bd_I h' a n nx p (mz_up A i (fg_sed (A i) k v)) g ∧ mz_eq a (a + 43) h h' := by
  have q := bd_sE H hi (f := fg_sed (A i) k v) (fg_sed_ok (bd_ok H hi) hk hv) fg_sed_O
  refine ⟨_, fun F => ?_, q⟩
  rw [mz_st (H.2.2.2.1 i hi).2.1 (by have := bd_nc H; unfold bd_f; omega) hk (by decide)]
  congr 3
  refine mz_ar_cong (fun j hj => ?_)
  rw [fg_ed_sed hk j hj]
  split <;> rfl
theorem bd_pn (H : bd_I h a n nx p A g) {v : Nat} (hv : v ≤ 20) : ∃ h', (∀ F, jx_pt h a 0 2 (.int (nI v)) F = F h') ∧ bd_I h' a v nx p A g ∧ mz_eq a (a + 43) h h' := by
  have e0 := bd_nc H
  obtain ⟨h1, h2, h3, h4, h5, h6, h7, h8, h9⟩ := H
  refine ⟨_, fun F => jx_pt_e h1 e0 (by show 2 < 4; decide) F, ⟨mz_set_e, by rw [mz_set_n (by omega)]; exact h2, by rw [mz_set_n (by omega)]; exact h3, fun j hj => ?_, hv, h6, h7, h8, h9⟩, mz_eq_st (by omega) (by omega)⟩
  have e2 : bd_f a j = a + 3 + 2 * j := rfl
  rw [mz_set_n (by omega), mz_set_n (by omega)]
  exact h4 j hj
theorem bd_pnx (H : bd_I h a n nx p A g) {v : Nat} (hv : v < 2 ^ 30) : ∃ h', (∀ F, jx_pt h a 0 3 (.int (nI v)) F = F h') ∧ bd_I h' a n v p A g ∧ mz_eq a (a + 43) h h' := by
  have e0 := bd_nc H
  obtain ⟨h1, h2, h3, h4, h5, h6, h7, h8, h9⟩ := H
  refine ⟨_, fun F => jx_pt_e h1 e0 (by show 3 < 4; decide) F, ⟨mz_set_e, by rw [mz_set_n (by omega)]; exact h2, by rw [mz_set_n (by omega)]; exact h3, fun j hj => ?_, h5, hv, h7, h8, h9⟩, mz_eq_st (by omega) (by omega)⟩
  have e2 : bd_f a j = a + 3 + 2 * j := rfl
  rw [mz_set_n (by omega), mz_set_n (by omega)]
  exact h4 j hj
theorem bd_pp (H : bd_I h a n nx p A g) {k i : Nat} (hk : k < 20) (hi : i < 20) : ∃ h', (∀ F, jx_st h (a + 1) 111 (nI k) (.ref (bd_f a i)) F = F h') ∧ bd_I h' a n nx (mz_up p k i) A g ∧ mz_eq a (a + 43) h h' := by
  have e0 := bd_nc H
  obtain ⟨h1, h2, h3, h4, h5, h6, h7, h8, h9⟩ := H
  refine ⟨_, fun F => mz_st h2 (by omega) hk (by decide) F, ⟨by rw [mz_set_n (by omega)]; exact h1, ?_, by rw [mz_set_n (by omega)]; exact h3, fun j hj => ?_, h5, h6, fun j hj => ?_, h8, h9⟩, mz_eq_st (by omega) (by omega)⟩
  · rw [mz_set_e]
    congr 2
    refine mz_ar_cong (fun j hj => ?_)
    unfold mz_up
    by_cases c : j = k
    · rw [if_pos c, if_pos c]
    · rw [if_neg c, if_neg c]
  · have e2 : bd_f a j = a + 3 + 2 * j := rfl
    rw [mz_set_n (by omega), mz_set_n (by omega)]
    exact h4 j hj
  · unfold mz_up
    split
    · exact hi
    · exact h7 j hj
theorem bd_pg (H : bd_I h a n nx p A g) {c : Nat} {o : Option Nat} (hc : c < 64) (hi : ∀ i, o = some i → i < 20) : ∃ h', (∀ F, jx_st h (a + 2) 111 (nI c) (bd_v a o) F = F h') ∧ bd_I h' a n nx p A (mz_up g c o) ∧ mz_eq a (a + 43) h h' := by
  have e0 := bd_nc H
  obtain ⟨h1, h2, h3, h4, h5, h6, h7, h8, h9⟩ := H
  refine ⟨_, fun F => mz_st h3 (by omega) hc (by decide) F, ⟨by rw [mz_set_n (by omega)]; exact h1, by rw [mz_set_n (by omega)]; exact h2, ?_, fun j hj => ?_, h5, h6, h7, fun d i hd e => ?_, h9⟩, mz_eq_st (by omega) (by omega)⟩
  · rw [mz_set_e]
    congr 2
    refine mz_ar_cong (fun j hj => ?_)
    unfold mz_up
    by_cases q : j = c
    · rw [if_pos q, if_pos q]
    · rw [if_neg q, if_neg q]
  · have e2 : bd_f a j = a + 3 + 2 * j := rfl
    rw [mz_set_n (by omega), mz_set_n (by omega)]
    exact h4 j hj
  · unfold mz_up at e
    split at e
    · exact hi i e
    · exact h8 d i hd e
theorem bd_eq (H : bd_I h a n nx p A g) {h' : jx_H} {lo hi : Nat} (e : mz_eq lo hi h h') (k : a + 43 ≤ lo ∨ hi ≤ a) : bd_I h' a n nx p A g := by
  obtain ⟨h1, h2, h3, h4, h5, h6, h7, h8, h9⟩ := H
  refine ⟨mz_eq_at e (by omega) h1, mz_eq_at e (by omega) h2, mz_eq_at e (by omega) h3, fun j hj => ?_, h5, h6, h7, h8, h9⟩
  have e2 : bd_f a j = a + 3 + 2 * j := rfl
  exact ⟨mz_eq_at e (by omega) (h4 j hj).1, mz_eq_at e (by omega) (h4 j hj).2.1, (h4 j hj).2.2⟩
/-- a fragment is laid on a cell -/
theorem m_9 (H : bd_I h a n nx p A g) {i c : Nat} (hi : i < 20) (hc : c < 64) : ∃ h', jx_A 9 [.ref a, .ref (bd_f a i), .int (nI c)] h = some (.inl none, h') ∧ bd_I h' a n nx p (mz_up A i (fg_sce (A i) (c + 1))) (mz_up g c (some i)) ∧ mz_eq a (a + 43) h h' := by
  obtain ⟨h1, e1, H1, s1⟩ := bd_pce H hi (v := c + 1) (by omega) (mz_pred c).symm
  obtain ⟨h2, e2, H2, s2⟩ := bd_pg H1 (c := c) (o := some i) hc (fun j e => by cases e; exact hi)
  refine ⟨h2, ?_, H2, mz_eq_tr s1 s2⟩
  rw [a_9, e1, bd_gr H1, bd_fis H1 hi]
  exact e2 _
end BD
end JX
