/-! Rows by functions, steps of the heap, loops. -/
section JX
/-- a string's bytes -/
def js_bs (s : List Nat) : jx_Ob := (104, s.map (fun n => .int (nI n)))
/-- the constants: rows of the class's statics, the keywords, strings, the script -/
def jx_K0 (xs : List Int32) (q : Nat) : Option jx_Ob := match q with
  | 0 => some (100, [.int 1, .int 2, .int 3, .int 4, .int 5, .int 0, .int 6])
  | 1 => some (100, [.int (-1), .int 0, .int 1, .int 0])
  | 2 => some (100, [.int 0, .int 1, .int 0, .int (-1)])
  | 3 => some (113, [.ref 4, .ref 5, .ref 6, .ref 7, .ref 8, .ref 9, .ref 10])
  | 4 => some (21, [.int 0, .ref 11, .ref 12])
  | 5 => some (21, [.int 1, .ref 13, .ref 14])
  | 6 => some (21, [.int 2, .ref 15, .ref 16])
  | 7 => some (21, [.int 3, .ref 17, .ref 18])
  | 8 => some (21, [.int 4, .ref 19, .ref 20])
  | 9 => some (21, [.int 5, .ref 21, .ref 22])
  | 10 => some (21, [.int 6, .ref 23, .ref 24])
  | 11 => some (20, [.ref 51, .int 0])
  | 12 => some (20, [.ref 52, .int 0])
  | 13 => some (20, [.ref 53, .int 0])
  | 14 => some (20, [.ref 54, .int 0])
  | 15 => some (20, [.ref 55, .int 0])
  | 16 => some (20, [.ref 56, .int 0])
  | 17 => some (20, [.ref 57, .int 0])
  | 18 => some (20, [.ref 58, .int 0])
  | 19 => some (20, [.ref 59, .int 0])
  | 20 => some (20, [.ref 60, .int 0])
  | 21 => some (20, [.ref 61, .int 0])
  | 22 => some (20, [.ref 62, .int 0])
  | 23 => some (20, [.ref 63, .int 0])
  | 24 => some (20, [.ref 64, .int 0])
  | 26 => some (js_bs [48, 49, 50, 51, 52, 53, 54, 55, 56, 57, 48, 49, 50, 51, 52, 53, 54, 55, 56, 57, 48, 49, 50, 51, 52, 53, 54, 55, 56, 57, 48, 49, 50, 51, 52, 53, 54, 55, 56, 57, 48, 49, 50, 51, 52, 53, 54, 55, 56, 57, 48, 49, 50, 51, 52, 53, 54, 55, 56, 57, 48, 49, 50, 51, 52, 53, 54, 55, 56, 57, 48, 49, 50, 51, 52, 53, 54, 55, 56, 57, 48, 49, 50, 51, 52, 53, 54, 55, 56, 57, 48, 49, 50, 51, 52, 53, 54, 55, 56, 57])
  | 27 => some (js_bs [48, 48, 48, 48, 48, 48, 48, 48, 48, 48, 49, 49, 49, 49, 49, 49, 49, 49, 49, 49, 50, 50, 50, 50, 50, 50, 50, 50, 50, 50, 51, 51, 51, 51, 51, 51, 51, 51, 51, 51, 52, 52, 52, 52, 52, 52, 52, 52, 52, 52, 53, 53, 53, 53, 53, 53, 53, 53, 53, 53, 54, 54, 54, 54, 54, 54, 54, 54, 54, 54, 55, 55, 55, 55, 55, 55, 55, 55, 55, 55, 56, 56, 56, 56, 56, 56, 56, 56, 56, 56, 57, 57, 57, 57, 57, 57, 57, 57, 57, 57])
  | 30 => some (20, [.ref 70, .int 0])
  | 31 => some (20, [.ref 71, .int 0])
  | 32 => some (20, [.ref 72, .int 0])
  | 33 => some (20, [.ref 73, .int 0])
  | 34 => some (20, [.ref 74, .int 0])
  | 35 => some (20, [.ref 75, .int 0])
  | 36 => some (20, [.ref 76, .int 0])
  | 51 => some (js_bs [110, 101, 119, 32])
  | 52 => some (js_bs [99, 104, 104, 104, 104])
  | 53 => some (js_bs [112, 117, 116, 32])
  | 54 => some (js_bs [110, 64, 100, 100])
  | 55 => some (js_bs [116, 97, 107, 101, 32])
  | 56 => some (js_bs [110])
  | 57 => some (js_bs [116, 117, 114, 110, 32])
  | 58 => some (js_bs [110, 42, 100])
  | 59 => some (js_bs [115, 119, 97, 112, 32])
  | 60 => some (js_bs [110, 38, 110])
  | 61 => some (js_bs [102, 105, 108, 108])
  | 62 => some (js_bs [])
  | 63 => some (js_bs [100, 114, 111, 112, 32])
  | 64 => some (js_bs [110])
  | 70 => some (js_bs [])
  | 71 => some (js_bs [48, 49, 50, 51, 52, 53, 54, 55, 56, 57, 97, 98, 99, 100, 101, 102])
  | 72 => some (js_bs [64])
  | 73 => some (js_bs [110, 101, 119, 32, 97, 51, 99, 53, 97, 59, 116, 117, 114, 110, 32])
  | 74 => some (js_bs [42])
  | 75 => some (js_bs [59, 112, 117, 116, 32])
  | 76 => some (js_bs [59, 102, 105, 108, 108])
  | 199 => some (100, xs.map .int)
  | _ => none
def mz_ar {α : Type} (n : Nat) (f : Nat → α) : List α := (List.range n).map f
theorem mz_ar_len {α : Type} (n : Nat) (f : Nat → α) : (mz_ar n f).length = n := by simp [mz_ar]
theorem mz_ar_get {α : Type} {n k : Nat} (f : Nat → α) (h : k < n) : (mz_ar n f)[k]? = some (f k) := by simp [mz_ar, h]
theorem mz_ar_cong {α : Type} {n : Nat} {f g : Nat → α} (h : ∀ i, i < n → f i = g i) : mz_ar n f = mz_ar n g := List.map_congr_left (fun i hi => h i (List.mem_range.mp hi))
theorem mz_ar_ext {α : Type} {n : Nat} {l : List α} {f : Nat → α} (hl : l.length = n) (h : ∀ i, i < n → l[i]? = some (f i)) : l = mz_ar n f := by
  apply List.ext_getElem?
  intro i
  by_cases hi : i < n
  · rw [mz_ar_get _ hi, h i hi]
  · rw [List.getElem?_eq_none (by omega), List.getElem?_eq_none (by rw [mz_ar_len]; omega)]
theorem mz_ar_set {α : Type} {n k : Nat} {f : Nat → α} {v : α} : (mz_ar n f).set k v = mz_ar n (fun i => if i = k then v else f i) := by
  refine mz_ar_ext (by rw [List.length_set, mz_ar_len]) (fun i hi => ?_)
  rw [List.getElem?_set, mz_ar_len]
  by_cases e : k = i
  · subst e; simp [hi]
  · rw [if_neg e, mz_ar_get _ hi, if_neg (fun q => e q.symm)]
theorem mz_ar_rep {α : Type} (n : Nat) (v : α) : List.replicate n v = mz_ar n (fun _ => v) := by
  refine mz_ar_ext (by simp) (fun i hi => ?_)
  simp [List.getElem?_replicate, hi]
theorem mz_ar_all {n : Nat} {f : Nat → Int32} : (mz_ar n (fun i => Value.int (f i))).all jx_ii = true := by
  rw [List.all_eq_true]
  intro x hx
  obtain ⟨i, -, rfl⟩ := List.mem_map.mp hx
  rfl
-- the heap behind a write
theorem mz_set_e {h : jx_H} {a : Nat} {o : jx_Ob} : (jx_set h a o).1 a = some o := by
  simp only [jx_set, beq_self_eq_true, cond_true]
theorem mz_set_n {h : jx_H} {a q : Nat} {o : jx_Ob} (e : q ≠ a) : (jx_set h a o).1 q = h.1 q := by
  have : (q == a) = false := by simpa using e
  simp only [jx_set, this, cond_false]
theorem mz_set_2 {h : jx_H} {a : Nat} {o : jx_Ob} : (jx_set h a o).2 = h.2 := rfl
/-- nothing but the cells from lo up to hi has changed -/
def mz_eq (lo hi : Nat) (h h' : jx_H) : Prop := (∀ q, q < lo ∨ hi ≤ q → h'.1 q = h.1 q) ∧ h'.2 = h.2
theorem mz_eq_rf {lo hi : Nat} {h : jx_H} : mz_eq lo hi h h := ⟨fun _ _ => rfl, rfl⟩
theorem mz_eq_tr {lo hi : Nat} {h h' h'' : jx_H} (a : mz_eq lo hi h h') (b : mz_eq lo hi h' h'') : mz_eq lo hi h h'' := ⟨fun q k => (b.1 q k).trans (a.1 q k), b.2.trans a.2⟩
theorem mz_eq_wd {lo hi lo' hi' : Nat} {h h' : jx_H} (a : mz_eq lo hi h h') (h1 : lo' ≤ lo) (h2 : hi ≤ hi') : mz_eq lo' hi' h h' := ⟨fun q k => a.1 q (by omega), a.2⟩
theorem mz_eq_st {lo hi a : Nat} {h : jx_H} {o : jx_Ob} (h1 : lo ≤ a) (h2 : a < hi) : mz_eq lo hi h (jx_set h a o) := ⟨fun q k => mz_set_n (by omega), rfl⟩
theorem mz_eq_at {lo hi : Nat} {h h' : jx_H} (a : mz_eq lo hi h h') {q : Nat} {o : jx_Ob} (k : q < lo ∨ hi ≤ q) (e : h.1 q = some o) : h'.1 q = some o := (a.1 q k).trans e
-- reading rows
theorem mz_lI {h : jx_H} {a t n k : Nat} {f : Nat → Value} {x : Int32} (h1 : h.1 a = some (t, mz_ar n f)) (hk : k < n) (hn : n < 2 ^ 31) (e : f k = .int x) (F : Int32 → jx_R) : jx_lI h a t (nI k) F = F x :=
  jx_lI_e h1 (nI_pos' (by omega)) (by rw [nI_clamp (by omega), mz_ar_get _ hk, e]) F
theorem mz_lA {h : jx_H} {a t n k : Nat} {f : Nat → Value} {x : Nat} (h1 : h.1 a = some (t, mz_ar n f)) (hk : k < n) (hn : n < 2 ^ 31) (e : f k = .ref x) (F : Nat → jx_R) : jx_lA h a t (nI k) F = F x :=
  jx_lA_e h1 (nI_pos' (by omega)) (by rw [nI_clamp (by omega), mz_ar_get _ hk, e]) F
theorem mz_lN {h : jx_H} {a t n k : Nat} {f : Nat → Value} {x : Nat} (h1 : h.1 a = some (t, mz_ar n f)) (hk : k < n) (hn : n < 2 ^ 31) (e : f k = .ref x) (F : Nat → jx_R) (g : jx_R) : jx_lN h a t (nI k) F g = F x :=
  jx_lN_e h1 (nI_pos' (by omega)) (by rw [nI_clamp (by omega), mz_ar_get _ hk, e]) F g
theorem mz_lNn {h : jx_H} {a t n k : Nat} {f : Nat → Value} (h1 : h.1 a = some (t, mz_ar n f)) (hk : k < n) (hn : n < 2 ^ 31) (e : f k = .null) (F : Nat → jx_R) (g : jx_R) : jx_lN h a t (nI k) F g = g :=
  jx_lN_n h1 (nI_pos' (by omega)) (by rw [nI_clamp (by omega), mz_ar_get _ hk, e]) F g
theorem mz_st {h : jx_H} {a t n k : Nat} {f : Nat → Value} {v : Value} (h1 : h.1 a = some (t, mz_ar n f)) (ha : jx_nc ≤ a) (hk : k < n) (hn : n < 2 ^ 31) (F : jx_H → jx_R) : jx_st h a t (nI k) v F = F (jx_set h a (t, mz_ar n (fun i => if i = k then v else f i))) := by
  rw [jx_st_e h1 (nI_pos' (by omega)) ha (by rw [nI_clamp (by omega), mz_ar_len]; exact hk), nI_clamp (by omega), mz_ar_set]
theorem mz_cp {h : jx_H} {a b t N M i j n : Nat} {u v : Nat → Int32} (h1 : h.1 a = some (t, mz_ar N (fun q => .int (u q)))) (h2 : h.1 b = some (t, mz_ar M (fun q => .int (v q)))) (hb : jx_nc ≤ b) (hi : i + n ≤ N) (hj : j + n ≤ M) (hN : N < 2 ^ 31) (hM : M < 2 ^ 31) (F : jx_H → jx_R) :
    jx_cp h a b t (nI i) (nI j) (nI n) F = F (jx_set h b (t, mz_ar M (fun q => .int (if j ≤ q ∧ q < j + n then u (q - j + i) else v q)))) := by
  rw [jx_cp_e h1 h2 ⟨nI_pos' (by omega), nI_pos' (by omega), nI_pos' (by omega), hb, by rw [nI_clamp (by omega), nI_clamp (by omega), mz_ar_len]; exact hi, by rw [nI_clamp (by omega), nI_clamp (by omega), mz_ar_len]; exact hj, mz_ar_all, mz_ar_all⟩]
  rw [nI_clamp (by omega), nI_clamp (by omega), nI_clamp (by omega)]
  congr 3
  refine mz_ar_ext (by simp [mz_ar_len]; omega) (fun q hq => ?_)
  by_cases c1 : q < j
  · rw [List.append_assoc, List.getElem?_append_left (by simp [mz_ar_len]; omega), List.getElem?_take, if_pos c1, mz_ar_get _ hq, if_neg (by omega)]
  · by_cases c2 : q < j + n
    · rw [List.append_assoc, List.getElem?_append_right (by simp [mz_ar_len]; omega), List.getElem?_append_left (by simp [mz_ar_len]; omega), List.getElem?_take, List.getElem?_drop, if_pos (by simp [mz_ar_len]; omega), if_pos ⟨by omega, c2⟩, show i + (q - (List.take j (mz_ar M fun q => Value.int (v q))).length) = q - j + i by simp [mz_ar_len]; omega, mz_ar_get _ (by omega)]
    · rw [List.append_assoc, List.getElem?_append_right (by simp [mz_ar_len]; omega), List.getElem?_append_right (by simp [mz_ar_len]; omega), List.getElem?_drop, if_neg (by omega), show j + n + (q - (List.take j (mz_ar M fun q => Value.int (v q))).length - (List.take n (List.drop i (mz_ar N fun q => Value.int (u q)))).length) = q by simp [mz_ar_len]; omega, mz_ar_get _ hq]
-- loops
theorem mz_inv {β γ : Type} (E : Nat → γ → β) (I : Nat → γ → Prop) (n : Nat) (R : β → Prop) (h0 : ∀ g, I n g → R (E n g)) (hs : ∀ i g, i < n → I i g → R (E i g) ∨ ∃ g', I (i + 1) g' ∧ E i g = E (i + 1) g') : ∀ (i : Nat) (g : γ), i ≤ n → I i g → R (E i g) := by
  have key : ∀ (k i : Nat) (g : γ), i + k = n → I i g → R (E i g) := by
    intro k
    induction k with
    | zero => intro i g e hI; have : i = n := by omega
              subst this; exact h0 g hI
    | succ k ih =>
      intro i g e hI
      rcases hs i g (by omega) hI with q | ⟨g', h1, h2⟩
      · exact q
      · rw [h2]; exact ih (i + 1) g' (by omega) h1
  exact fun i g hi hI => key (n - i) i g (by omega) hI
/-- a loop whose state its number tells -/
theorem mz_lp {β : Type} (E : Nat → β) (n : Nat) (r : β) (h0 : E n = r) (hs : ∀ i, i < n → E i = E (i + 1)) (i : Nat) (hi : i ≤ n) : E i = r :=
  mz_inv (γ := Unit) (fun i _ => E i) (fun _ _ => True) n (fun b => b = r) (fun _ _ => h0) (fun i _ hi _ => Or.inr ⟨(), trivial, hs i hi⟩) i () hi trivial
/-- the same, with a place of no meaning -/
theorem mz_lpj {β γ : Type} (E : Nat → γ → β) (n : Nat) (r : β) (h0 : ∀ g, E n g = r) (hs : ∀ i g, i < n → ∃ g', E i g = E (i + 1) g') (i : Nat) (g : γ) (hi : i ≤ n) : E i g = r :=
  mz_inv E (fun _ _ => True) n (fun b => b = r) (fun g _ => h0 g) (fun i g hi _ => by obtain ⟨g', e⟩ := hs i g hi; exact Or.inr ⟨g', trivial, e⟩) i g hi trivial
/-- a search: the first number that has a property -/
theorem mz_sr {β γ : Type} (E : Nat → γ → β) (n : Nat) (P : Nat → Prop) (r1 : Nat → β) (r0 : β) (h0 : ∀ g, E n g = r0) (hs : ∀ i g, i < n → (P i ∧ E i g = r1 i) ∨ (¬ P i ∧ ∃ g', E i g = E (i + 1) g')) (g : γ) :
    (∃ i, i < n ∧ P i ∧ (∀ j, j < i → ¬ P j) ∧ E 0 g = r1 i) ∨ ((∀ j, j < n → ¬ P j) ∧ E 0 g = r0) := by
  have := mz_inv (γ := γ) E (fun i _ => ∀ j, j < i → ¬ P j) n (fun b => (∃ i, i < n ∧ P i ∧ (∀ j, j < i → ¬ P j) ∧ b = r1 i) ∨ ((∀ j, j < n → ¬ P j) ∧ b = r0)) (fun g hg => Or.inr ⟨hg, h0 g⟩) (fun i g hi hI => by
    rcases hs i g hi with ⟨p, e⟩ | ⟨p, g', e⟩
    · exact Or.inl (Or.inl ⟨i, hi, p, hI, e⟩)
    · refine Or.inr ⟨g', fun j hj => ?_, e⟩
      by_cases q : j = i
      · subst q; exact p
      · exact hI j (by omega)) 0 g (Nat.zero_le _) (fun j hj => by omega)
  exact this
/-- sums over the numbers below n -/
def mz_su (f : Nat → Nat) : Nat → Nat | 0 => 0 | n + 1 => mz_su f n + f n
theorem mz_su_cong {f g : Nat → Nat} : ∀ {n : Nat}, (∀ i, i < n → f i = g i) → mz_su f n = mz_su g n
  | 0, _ => rfl
  | n + 1, h => by
    show mz_su f n + f n = mz_su g n + g n
    rw [mz_su_cong (fun i hi => h i (by omega)), h n (by omega)]
theorem mz_su_le {f : Nat → Nat} {b : Nat} : ∀ {n : Nat}, (∀ i, i < n → f i ≤ b) → mz_su f n ≤ n * b
  | 0, _ => Nat.zero_le _
  | n + 1, h => by
    show mz_su f n + f n ≤ (n + 1) * b
    have := mz_su_le (f := f) (b := b) (n := n) (fun i hi => h i (by omega))
    have := h n (by omega)
    rw [Nat.add_mul]; omega
-- calls
theorem mz_i1 {n : Nat} : nI n + 1 = nI (n + 1) := nI_1 n
theorem mz_b0 : (0 : Int32) = nI 0 := rfl
theorem mz_cNn {C : jx_C} {m : Nat} {as : List Value} {h h' : jx_H} (e : C m as h = some (.inl (some .null), h')) (f : Nat → jx_H → jx_R) (g : jx_H → jx_R) : jx_cN C m as h f g = g h' := by simp only [jx_cN, e]
end JX
