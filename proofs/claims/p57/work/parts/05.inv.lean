section JX
theorem jx_gI_e {h : jx_H} {a t k : Nat} {fs : List Value} {x : Int32} (h1 : h.1 a = some (t, fs)) (h2 : fs[k]? = some (.int x)) (f : Int32 → jx_R) : jx_gI h a t k f = f x := by
  simp only [jx_gI, h1, h2, beq_self_eq_true, cond_true]
theorem jx_gI_i {h : jx_H} {a t k : Nat} {f : Int32 → jx_R} {r : jx_O} (hr : jx_gI h a t k f = some r) : ∃ (fs : List Value) (x : Int32), h.1 a = some (t, fs) ∧ fs[k]? = some (.int x) ∧ f x = some r := by
  unfold jx_gI at hr
  split at hr
  · rename_i t' fs e
    cases ht : (t' == t) with
    | false => rw [ht] at hr; cases hr
    | true =>
      rw [ht, cond_true] at hr
      have ht := eq_of_beq ht
      subst ht
      split at hr
      · rename_i x e2
        exact ⟨fs, x, e, e2, hr⟩
      · cases hr
  · cases hr
theorem jx_gA_e {h : jx_H} {a t k : Nat} {fs : List Value} {x : Nat} (h1 : h.1 a = some (t, fs)) (h2 : fs[k]? = some (.ref x)) (f : Nat → jx_R) : jx_gA h a t k f = f x := by
  simp only [jx_gA, h1, h2, beq_self_eq_true, cond_true]
theorem jx_gA_i {h : jx_H} {a t k : Nat} {f : Nat → jx_R} {r : jx_O} (hr : jx_gA h a t k f = some r) : ∃ (fs : List Value) (x : Nat), h.1 a = some (t, fs) ∧ fs[k]? = some (.ref x) ∧ f x = some r := by
  unfold jx_gA at hr
  split at hr
  · rename_i t' fs e
    cases ht : (t' == t) with
    | false => rw [ht] at hr; cases hr
    | true =>
      rw [ht, cond_true] at hr
      have ht := eq_of_beq ht
      subst ht
      split at hr
      · rename_i x e2
        exact ⟨fs, x, e, e2, hr⟩
      · cases hr
  · cases hr
theorem jx_lI_e {h : jx_H} {a t : Nat} {i : Int32} {vs : List Value} {x : Int32} (h1 : h.1 a = some (t, vs)) (h0 : 0 ≤ i) (h2 : vs[i.toNatClampNeg]? = some (.int x)) (f : Int32 → jx_R) : jx_lI h a t i f = f x := by
  simp only [jx_lI, h1, h2, beq_self_eq_true, decide_eq_true h0, Bool.and_self, cond_true]
theorem jx_lI_i {h : jx_H} {a t : Nat} {i : Int32} {f : Int32 → jx_R} {r : jx_O} (hr : jx_lI h a t i f = some r) : ∃ (vs : List Value) (x : Int32), h.1 a = some (t, vs) ∧ 0 ≤ i ∧ vs[i.toNatClampNeg]? = some (.int x) ∧ f x = some r := by
  unfold jx_lI at hr
  split at hr
  · rename_i t' vs e
    cases ht : (t' == t && decide (0 ≤ i)) with
    | false => rw [ht] at hr; cases hr
    | true =>
      rw [ht, cond_true] at hr
      rw [Bool.and_eq_true, decide_eq_true_eq] at ht
      obtain ⟨ht, h0⟩ := ht
      have ht := eq_of_beq ht
      subst ht
      split at hr
      · rename_i x e2
        exact ⟨vs, x, e, h0, e2, hr⟩
      · cases hr
  · cases hr
theorem jx_lL_e {h : jx_H} {a t : Nat} {i : Int32} {vs : List Value} {x : Int64} (h1 : h.1 a = some (t, vs)) (h0 : 0 ≤ i) (h2 : vs[i.toNatClampNeg]? = some (.long x)) (f : Int64 → jx_R) : jx_lL h a t i f = f x := by
  simp only [jx_lL, h1, h2, beq_self_eq_true, decide_eq_true h0, Bool.and_self, cond_true]
theorem jx_lL_i {h : jx_H} {a t : Nat} {i : Int32} {f : Int64 → jx_R} {r : jx_O} (hr : jx_lL h a t i f = some r) : ∃ (vs : List Value) (x : Int64), h.1 a = some (t, vs) ∧ 0 ≤ i ∧ vs[i.toNatClampNeg]? = some (.long x) ∧ f x = some r := by
  unfold jx_lL at hr
  split at hr
  · rename_i t' vs e
    cases ht : (t' == t && decide (0 ≤ i)) with
    | false => rw [ht] at hr; cases hr
    | true =>
      rw [ht, cond_true] at hr
      rw [Bool.and_eq_true, decide_eq_true_eq] at ht
      obtain ⟨ht, h0⟩ := ht
      have ht := eq_of_beq ht
      subst ht
      split at hr
      · rename_i x e2
        exact ⟨vs, x, e, h0, e2, hr⟩
      · cases hr
  · cases hr
theorem jx_lD_e {h : jx_H} {a t : Nat} {i : Int32} {vs : List Value} {x : UInt64} (h1 : h.1 a = some (t, vs)) (h0 : 0 ≤ i) (h2 : vs[i.toNatClampNeg]? = some (.double x)) (f : UInt64 → jx_R) : jx_lD h a t i f = f x := by
  simp only [jx_lD, h1, h2, beq_self_eq_true, decide_eq_true h0, Bool.and_self, cond_true]
theorem jx_lD_i {h : jx_H} {a t : Nat} {i : Int32} {f : UInt64 → jx_R} {r : jx_O} (hr : jx_lD h a t i f = some r) : ∃ (vs : List Value) (x : UInt64), h.1 a = some (t, vs) ∧ 0 ≤ i ∧ vs[i.toNatClampNeg]? = some (.double x) ∧ f x = some r := by
  unfold jx_lD at hr
  split at hr
  · rename_i t' vs e
    cases ht : (t' == t && decide (0 ≤ i)) with
    | false => rw [ht] at hr; cases hr
    | true =>
      rw [ht, cond_true] at hr
      rw [Bool.and_eq_true, decide_eq_true_eq] at ht
      obtain ⟨ht, h0⟩ := ht
      have ht := eq_of_beq ht
      subst ht
      split at hr
      · rename_i x e2
        exact ⟨vs, x, e, h0, e2, hr⟩
      · cases hr
  · cases hr
theorem jx_lA_e {h : jx_H} {a t : Nat} {i : Int32} {vs : List Value} {x : Nat} (h1 : h.1 a = some (t, vs)) (h0 : 0 ≤ i) (h2 : vs[i.toNatClampNeg]? = some (.ref x)) (f : Nat → jx_R) : jx_lA h a t i f = f x := by
  simp only [jx_lA, h1, h2, beq_self_eq_true, decide_eq_true h0, Bool.and_self, cond_true]
theorem jx_lA_i {h : jx_H} {a t : Nat} {i : Int32} {f : Nat → jx_R} {r : jx_O} (hr : jx_lA h a t i f = some r) : ∃ (vs : List Value) (x : Nat), h.1 a = some (t, vs) ∧ 0 ≤ i ∧ vs[i.toNatClampNeg]? = some (.ref x) ∧ f x = some r := by
  unfold jx_lA at hr
  split at hr
  · rename_i t' vs e
    cases ht : (t' == t && decide (0 ≤ i)) with
    | false => rw [ht] at hr; cases hr
    | true =>
      rw [ht, cond_true] at hr
      rw [Bool.and_eq_true, decide_eq_true_eq] at ht
      obtain ⟨ht, h0⟩ := ht
      have ht := eq_of_beq ht
      subst ht
      split at hr
      · rename_i x e2
        exact ⟨vs, x, e, h0, e2, hr⟩
      · cases hr
  · cases hr
theorem jx_lN_e {h : jx_H} {a t : Nat} {i : Int32} {vs : List Value} {x : Nat} (h1 : h.1 a = some (t, vs)) (h0 : 0 ≤ i) (h2 : vs[i.toNatClampNeg]? = some (.ref x)) (f : Nat → jx_R) (g : jx_R) : jx_lN h a t i f g = f x := by
  simp only [jx_lN, h1, h2, beq_self_eq_true, decide_eq_true h0, Bool.and_self, cond_true]
theorem jx_lN_n {h : jx_H} {a t : Nat} {i : Int32} {vs : List Value} (h1 : h.1 a = some (t, vs)) (h0 : 0 ≤ i) (h2 : vs[i.toNatClampNeg]? = some .null) (f : Nat → jx_R) (g : jx_R) : jx_lN h a t i f g = g := by
  simp only [jx_lN, h1, h2, beq_self_eq_true, decide_eq_true h0, Bool.and_self, cond_true]
theorem jx_lN_i {h : jx_H} {a t : Nat} {i : Int32} {f : Nat → jx_R} {g : jx_R} {r : jx_O} (hr : jx_lN h a t i f g = some r) : ∃ (vs : List Value), h.1 a = some (t, vs) ∧ 0 ≤ i ∧ ((∃ x, vs[i.toNatClampNeg]? = some (.ref x) ∧ f x = some r) ∨ (vs[i.toNatClampNeg]? = some .null ∧ g = some r)) := by
  unfold jx_lN at hr
  split at hr
  · rename_i t' vs e
    cases ht : (t' == t && decide (0 ≤ i)) with
    | false => rw [ht] at hr; cases hr
    | true =>
      rw [ht, cond_true] at hr
      rw [Bool.and_eq_true, decide_eq_true_eq] at ht
      obtain ⟨ht, h0⟩ := ht
      have ht := eq_of_beq ht
      subst ht
      split at hr
      · rename_i x e2
        exact ⟨vs, e, h0, Or.inl ⟨x, e2, hr⟩⟩
      · rename_i e2
        exact ⟨vs, e, h0, Or.inr ⟨e2, hr⟩⟩
      · cases hr
  · cases hr
theorem jx_pt_e {h : jx_H} {a t k : Nat} {v : Value} {fs : List Value} (h1 : h.1 a = some (t, fs)) (h2 : jx_nc ≤ a) (h3 : k < fs.length) (f : jx_H → jx_R) : jx_pt h a t k v f = f (jx_set h a (t, fs.set k v)) := by
  simp only [jx_pt, h1, beq_self_eq_true, Nat.ble_eq_true_of_le h2, (show Nat.blt k fs.length = true from Nat.ble_eq_true_of_le h3), Bool.and_self, cond_true]
theorem jx_pt_i {h : jx_H} {a t k : Nat} {v : Value} {f : jx_H → jx_R} {r : jx_O} (hr : jx_pt h a t k v f = some r) : ∃ fs : List Value, h.1 a = some (t, fs) ∧ jx_nc ≤ a ∧ k < fs.length ∧ f (jx_set h a (t, fs.set k v)) = some r := by
  unfold jx_pt at hr
  split at hr
  · rename_i t' fs e
    cases ht : (t' == t && Nat.ble jx_nc a && Nat.blt k fs.length) with
    | false => rw [ht] at hr; cases hr
    | true =>
      rw [ht, cond_true] at hr
      rw [Bool.and_eq_true, Bool.and_eq_true] at ht
      obtain ⟨⟨ht, h0⟩, h2⟩ := ht
      have ht := eq_of_beq ht
      subst ht
      exact ⟨fs, e, Nat.le_of_ble_eq_true h0, Nat.le_of_ble_eq_true h2, hr⟩
  · cases hr
theorem jx_st_e {h : jx_H} {a t : Nat} {i : Int32} {v : Value} {vs : List Value} (h1 : h.1 a = some (t, vs)) (h0 : 0 ≤ i) (h2 : jx_nc ≤ a) (h3 : i.toNatClampNeg < vs.length) (f : jx_H → jx_R) : jx_st h a t i v f = f (jx_set h a (t, vs.set i.toNatClampNeg v)) := by
  simp only [jx_st, h1, beq_self_eq_true, decide_eq_true h0, Nat.ble_eq_true_of_le h2, (show Nat.blt i.toNatClampNeg vs.length = true from Nat.ble_eq_true_of_le h3), Bool.and_self, cond_true]
theorem jx_st_i {h : jx_H} {a t : Nat} {i : Int32} {v : Value} {f : jx_H → jx_R} {r : jx_O} (hr : jx_st h a t i v f = some r) : ∃ vs : List Value, h.1 a = some (t, vs) ∧ 0 ≤ i ∧ jx_nc ≤ a ∧ i.toNatClampNeg < vs.length ∧ f (jx_set h a (t, vs.set i.toNatClampNeg v)) = some r := by
  unfold jx_st at hr
  split at hr
  · rename_i t' vs e
    cases ht : (t' == t && decide (0 ≤ i) && Nat.ble jx_nc a && Nat.blt i.toNatClampNeg vs.length) with
    | false => rw [ht] at hr; cases hr
    | true =>
      rw [ht, cond_true] at hr
      rw [Bool.and_eq_true, Bool.and_eq_true, Bool.and_eq_true, decide_eq_true_eq] at ht
      obtain ⟨⟨⟨ht, h9⟩, h0⟩, h2⟩ := ht
      have ht := eq_of_beq ht
      subst ht
      exact ⟨vs, e, h9, Nat.le_of_ble_eq_true h0, Nat.le_of_ble_eq_true h2, hr⟩
  · cases hr
theorem jx_sz_e {h : jx_H} {a t : Nat} {vs : List Value} (h1 : h.1 a = some (t, vs)) (h2 : 100 ≤ t) (f : Nat → jx_R) : jx_sz h a f = f vs.length := by
  simp only [jx_sz, h1, Nat.ble_eq_true_of_le h2, cond_true]
theorem jx_sz_i {h : jx_H} {a : Nat} {f : Nat → jx_R} {r : jx_O} (hr : jx_sz h a f = some r) : ∃ (t : Nat) (vs : List Value), h.1 a = some (t, vs) ∧ 100 ≤ t ∧ f vs.length = some r := by
  unfold jx_sz at hr
  split at hr
  · rename_i t' vs e
    cases ht : Nat.ble 100 t' with
    | false => rw [ht] at hr; cases hr
    | true =>
      rw [ht, cond_true] at hr
      exact ⟨t', vs, e, Nat.le_of_ble_eq_true ht, hr⟩
  · cases hr
theorem jx_is_e {h : jx_H} {a t : Nat} {vs : List Value} (h1 : h.1 a = some (t, vs)) (f : jx_R) : jx_is h a t f = f := by
  simp only [jx_is, h1, beq_self_eq_true, cond_true]
theorem jx_is_i {h : jx_H} {a t : Nat} {f : jx_R} {r : jx_O} (hr : jx_is h a t f = some r) : ∃ (vs : List Value), h.1 a = some (t, vs) ∧ f = some r := by
  unfold jx_is at hr
  split at hr
  · rename_i t' vs e
    cases ht : (t' == t) with
    | false => rw [ht] at hr; cases hr
    | true =>
      rw [ht, cond_true] at hr
      have ht := eq_of_beq ht
      subst ht
      exact ⟨vs, e, hr⟩
  · cases hr
theorem jx_cp_i {h : jx_H} {a b t : Nat} {i j n : Int32} {f : jx_H → jx_R} {r : jx_O} (hr : jx_cp h a b t i j n f = some r) : ∃ (us vs : List Value), h.1 a = some (t, us) ∧ h.1 b = some (t, vs) ∧ (0 ≤ i ∧ 0 ≤ j ∧ 0 ≤ n ∧ jx_nc ≤ b ∧ i.toNatClampNeg + n.toNatClampNeg ≤ us.length ∧ j.toNatClampNeg + n.toNatClampNeg ≤ vs.length ∧ us.all jx_ii = true ∧ vs.all jx_ii = true) ∧
    f (jx_set h b (t, vs.take j.toNatClampNeg ++ ((us.drop i.toNatClampNeg).take n.toNatClampNeg) ++ vs.drop (j.toNatClampNeg + n.toNatClampNeg))) = some r := by
  unfold jx_cp at hr
  split at hr
  · rename_i t1 us t2 vs e1 e2
    split at hr
    · rename_i hc
      obtain ⟨rfl, rfl, hc⟩ := hc
      exact ⟨us, vs, e1, e2, hc, hr⟩
    · cases hr
  · cases hr
theorem jx_cp_e {h : jx_H} {a b t : Nat} {i j n : Int32} {us vs : List Value} (h1 : h.1 a = some (t, us)) (h2 : h.1 b = some (t, vs)) (hc : 0 ≤ i ∧ 0 ≤ j ∧ 0 ≤ n ∧ jx_nc ≤ b ∧ i.toNatClampNeg + n.toNatClampNeg ≤ us.length ∧ j.toNatClampNeg + n.toNatClampNeg ≤ vs.length ∧ us.all jx_ii = true ∧ vs.all jx_ii = true) (f : jx_H → jx_R) :
    jx_cp h a b t i j n f = f (jx_set h b (t, vs.take j.toNatClampNeg ++ ((us.drop i.toNatClampNeg).take n.toNatClampNeg) ++ vs.drop (j.toNatClampNeg + n.toNatClampNeg))) := by
  unfold jx_cp
  rw [h1, h2]
  exact if_pos ⟨rfl, rfl, hc⟩
theorem jx_n32_i {x : UInt32} {f : jx_R} {r : jx_O} (hr : jx_n32 x f = some r) : isNaN32 x = false ∧ f = some r := by
  unfold jx_n32 at hr
  cases h : isNaN32 x with
  | false => rw [h] at hr; exact ⟨rfl, hr⟩
  | true => rw [h] at hr; cases hr
theorem jx_n64_i {x : UInt64} {f : jx_R} {r : jx_O} (hr : jx_n64 x f = some r) : isNaN64 x = false ∧ f = some r := by
  unfold jx_n64 at hr
  cases h : isNaN64 x with
  | false => rw [h] at hr; exact ⟨rfl, hr⟩
  | true => rw [h] at hr; cases hr
theorem jx_ck_i {st : List Value} {f : jx_R} {r : jx_O} (hr : jx_ck st f = some r) : jx_cat st ≤ 8 ∧ f = some r := by
  unfold jx_ck at hr
  cases h : Nat.ble (jx_cat st) 8 with
  | true => rw [h] at hr; exact ⟨Nat.le_of_ble_eq_true h, hr⟩
  | false => rw [h] at hr; cases hr
theorem jx_ck_e {st : List Value} (h : jx_cat st ≤ 8) (f : jx_R) : jx_ck st f = f := by
  unfold jx_ck
  rw [Nat.ble_eq_true_of_le h]; rfl
theorem jx_tk_i : ∀ {n : Nat} {st acc : List Value} {f : List Value → List Value → jx_R} {r : jx_O} (_ : jx_tk n st acc f = some r), ∃ us rest : List Value, st = us ++ rest ∧ us.length = n ∧ jx_cat rest ≤ 8 ∧ f (us.reverse ++ acc) rest = some r
  | 0, st, acc, f, r, hr => ⟨[], st, rfl, rfl, jx_ck_i hr⟩
  | n + 1, a :: st, acc, f, r, hr => by
    obtain ⟨us, rest, e1, e2, e4, e3⟩ := jx_tk_i (n := n) (st := st) (acc := a :: acc) (f := f) hr
    exact ⟨a :: us, rest, by rw [e1]; rfl, by rw [List.length_cons, e2], e4, by simpa using e3⟩
  | n + 1, [], acc, f, r, hr => by cases hr
theorem jx_tk_e : ∀ (us : List Value) {rest acc : List Value} (_ : jx_cat rest ≤ 8) (f : List Value → List Value → jx_R), jx_tk us.length (us ++ rest) acc f = f (us.reverse ++ acc) rest
  | [], rest, acc, hk, f => jx_ck_e hk _
  | a :: us, rest, acc, hk, f => by
    show jx_tk us.length (us ++ rest) (a :: acc) f = _
    rw [jx_tk_e us hk f]
    simp
theorem jx_rc_i {rt : Nat} {as : List Value} {h : jx_H} {f : jx_R} {r : jx_O} (hr : jx_rc rt as h f = some r) : f = some r ∧ (∀ g, jx_rc rt as h g = g) ∧ (rt = 0 ∨ ∃ (t a : Nat) (bs fs : List Value), rt = t + 1 ∧ as = .ref a :: bs ∧ h.1 a = some (t, fs)) := by
  cases rt with
  | zero => exact ⟨hr, fun _ => rfl, Or.inl rfl⟩
  | succ t =>
    cases as with
    | nil => cases hr
    | cons v bs =>
      cases v with
      | ref a =>
        obtain ⟨fs, e1, e2⟩ := jx_is_i (h := h) (a := a) (t := t) (f := f) hr
        exact ⟨e2, fun g => jx_is_e e1 g, Or.inr ⟨t, a, bs, fs, rfl, rfl, e1⟩⟩
      | _ => cases hr
theorem jx_sw_i : ∀ {ts : List (Int32 × Nat)} {x : Int32} {d : Nat} {f : Nat → jx_R} {r : jx_O} (_ : jx_sw x d ts f = some r), ∃ t, f t = some r ∧ ∀ g : Nat → jx_R, jx_sw x d ts g = g t
  | [], x, d, f, r, hr => ⟨d, hr, fun _ => rfl⟩
  | (v, t) :: ts, x, d, f, r, hr => by
    unfold jx_sw at hr
    by_cases h : x = v
    · rw [if_pos h] at hr
      exact ⟨t, hr, fun g => by unfold jx_sw; rw [if_pos h]⟩
    · rw [if_neg h] at hr
      obtain ⟨t', h1, h2⟩ := jx_sw_i hr
      exact ⟨t', h1, fun g => by unfold jx_sw; rw [if_neg h]; exact h2 g⟩
theorem jx_hd_i : ∀ {hs : List (String × Nat)} {e : String} {f : Nat → jx_R} {g : jx_R} {r : jx_O} (_ : jx_hd e hs f g = some r), (∃ t, (∃ (a b : List (String × Nat)), hs = a ++ (e, t) :: b ∧ ∀ q ∈ a, q.1 ≠ e) ∧ f t = some r ∧ ∀ (f' : Nat → jx_R) (g' : jx_R), jx_hd e hs f' g' = f' t) ∨ (g = some r ∧ ∀ (f' : Nat → jx_R) (g' : jx_R), jx_hd e hs f' g' = g')
  | [], e, f, g, r, hr => Or.inr ⟨hr, fun _ _ => rfl⟩
  | (x, t) :: hs, e, f, g, r, hr => by
    unfold jx_hd at hr
    by_cases h : e = x
    · rw [if_pos h] at hr
      exact Or.inl ⟨t, ⟨[], hs, by rw [h]; rfl, fun q hq => nomatch hq⟩, hr, fun f' g' => by unfold jx_hd; rw [if_pos h]⟩
    · rw [if_neg h] at hr
      rcases jx_hd_i hr with ⟨t', ⟨a, b, e1, e2⟩, h1, h2⟩ | ⟨h1, h2⟩
      · exact Or.inl ⟨t', ⟨(x, t) :: a, b, by rw [e1]; rfl, fun q hq => by rcases List.mem_cons.mp hq with rfl | hq; exact fun z => h z.symm; exact e2 q hq⟩, h1, fun f' g' => by unfold jx_hd; rw [if_neg h]; exact h2 f' g'⟩
      · exact Or.inr ⟨h1, fun f' g' => by unfold jx_hd; rw [if_neg h]; exact h2 f' g'⟩
theorem jx_cI_i {C : jx_C} {m : Nat} {as : List Value} {h : jx_H} {f : Int32 → jx_H → jx_R} {r : jx_O} (hr : jx_cI C m as h f = some r) : (∃ x h', C m as h = some (.inl (some (.int x)), h') ∧ f x h' = some r) ∨ ∃ e h', C m as h = some (.inr e, h') ∧ r = (.inr e, h') := by
  unfold jx_cI at hr
  split at hr
  · rename_i x h' e
    exact Or.inl ⟨x, h', e, hr⟩
  · rename_i e h' e2
    exact Or.inr ⟨e, h', e2, (Option.some.inj hr).symm⟩
  · cases hr
theorem jx_cI_e {C : jx_C} {m : Nat} {as : List Value} {h h' : jx_H} {x : Int32} (h1 : C m as h = some (.inl (some (.int x)), h')) (f : Int32 → jx_H → jx_R) : jx_cI C m as h f = f x h' := by
  simp only [jx_cI, h1]
theorem jx_cI_x {C : jx_C} {m : Nat} {as : List Value} {h h' : jx_H} {e : String} (h1 : C m as h = some (.inr e, h')) (f : Int32 → jx_H → jx_R) : jx_cI C m as h f = some (.inr e, h') := by
  simp only [jx_cI, h1]
theorem jx_hI_i {C : jx_C} {m : Nat} {as : List Value} {h : jx_H} {hs : List (String × Nat)} {f : Int32 → jx_H → jx_R} {g : Nat → jx_H → jx_R} {r : jx_O} (hr : jx_hI C m as h hs f g = some r) : (∃ x h', C m as h = some (.inl (some (.int x)), h') ∧ f x h' = some r) ∨ ∃ e h', C m as h = some (.inr e, h') ∧ jx_hd e hs (fun t => g t h') none = some r := by
  unfold jx_hI at hr
  split at hr
  · rename_i x h' e
    exact Or.inl ⟨x, h', e, hr⟩
  · rename_i e h' e2
    exact Or.inr ⟨e, h', e2, hr⟩
  · cases hr
theorem jx_hI_e {C : jx_C} {m : Nat} {as : List Value} {h h' : jx_H} {hs : List (String × Nat)} {x : Int32} (h1 : C m as h = some (.inl (some (.int x)), h')) (f : Int32 → jx_H → jx_R) (g : Nat → jx_H → jx_R) : jx_hI C m as h hs f g = f x h' := by
  simp only [jx_hI, h1]
theorem jx_hI_x {C : jx_C} {m : Nat} {as : List Value} {h h' : jx_H} {hs : List (String × Nat)} {e : String} (h1 : C m as h = some (.inr e, h')) (f : Int32 → jx_H → jx_R) (g : Nat → jx_H → jx_R) : jx_hI C m as h hs f g = jx_hd e hs (fun t => g t h') none := by
  simp only [jx_hI, h1]
theorem jx_cL_i {C : jx_C} {m : Nat} {as : List Value} {h : jx_H} {f : Int64 → jx_H → jx_R} {r : jx_O} (hr : jx_cL C m as h f = some r) : (∃ x h', C m as h = some (.inl (some (.long x)), h') ∧ f x h' = some r) ∨ ∃ e h', C m as h = some (.inr e, h') ∧ r = (.inr e, h') := by
  unfold jx_cL at hr
  split at hr
  · rename_i x h' e
    exact Or.inl ⟨x, h', e, hr⟩
  · rename_i e h' e2
    exact Or.inr ⟨e, h', e2, (Option.some.inj hr).symm⟩
  · cases hr
theorem jx_cL_e {C : jx_C} {m : Nat} {as : List Value} {h h' : jx_H} {x : Int64} (h1 : C m as h = some (.inl (some (.long x)), h')) (f : Int64 → jx_H → jx_R) : jx_cL C m as h f = f x h' := by
  simp only [jx_cL, h1]
theorem jx_cL_x {C : jx_C} {m : Nat} {as : List Value} {h h' : jx_H} {e : String} (h1 : C m as h = some (.inr e, h')) (f : Int64 → jx_H → jx_R) : jx_cL C m as h f = some (.inr e, h') := by
  simp only [jx_cL, h1]
theorem jx_hL_i {C : jx_C} {m : Nat} {as : List Value} {h : jx_H} {hs : List (String × Nat)} {f : Int64 → jx_H → jx_R} {g : Nat → jx_H → jx_R} {r : jx_O} (hr : jx_hL C m as h hs f g = some r) : (∃ x h', C m as h = some (.inl (some (.long x)), h') ∧ f x h' = some r) ∨ ∃ e h', C m as h = some (.inr e, h') ∧ jx_hd e hs (fun t => g t h') none = some r := by
  unfold jx_hL at hr
  split at hr
  · rename_i x h' e
    exact Or.inl ⟨x, h', e, hr⟩
  · rename_i e h' e2
    exact Or.inr ⟨e, h', e2, hr⟩
  · cases hr
theorem jx_hL_e {C : jx_C} {m : Nat} {as : List Value} {h h' : jx_H} {hs : List (String × Nat)} {x : Int64} (h1 : C m as h = some (.inl (some (.long x)), h')) (f : Int64 → jx_H → jx_R) (g : Nat → jx_H → jx_R) : jx_hL C m as h hs f g = f x h' := by
  simp only [jx_hL, h1]
theorem jx_hL_x {C : jx_C} {m : Nat} {as : List Value} {h h' : jx_H} {hs : List (String × Nat)} {e : String} (h1 : C m as h = some (.inr e, h')) (f : Int64 → jx_H → jx_R) (g : Nat → jx_H → jx_R) : jx_hL C m as h hs f g = jx_hd e hs (fun t => g t h') none := by
  simp only [jx_hL, h1]
theorem jx_cF_i {C : jx_C} {m : Nat} {as : List Value} {h : jx_H} {f : UInt32 → jx_H → jx_R} {r : jx_O} (hr : jx_cF C m as h f = some r) : (∃ x h', C m as h = some (.inl (some (.float x)), h') ∧ f x h' = some r) ∨ ∃ e h', C m as h = some (.inr e, h') ∧ r = (.inr e, h') := by
  unfold jx_cF at hr
  split at hr
  · rename_i x h' e
    exact Or.inl ⟨x, h', e, hr⟩
  · rename_i e h' e2
    exact Or.inr ⟨e, h', e2, (Option.some.inj hr).symm⟩
  · cases hr
theorem jx_cF_e {C : jx_C} {m : Nat} {as : List Value} {h h' : jx_H} {x : UInt32} (h1 : C m as h = some (.inl (some (.float x)), h')) (f : UInt32 → jx_H → jx_R) : jx_cF C m as h f = f x h' := by
  simp only [jx_cF, h1]
theorem jx_cF_x {C : jx_C} {m : Nat} {as : List Value} {h h' : jx_H} {e : String} (h1 : C m as h = some (.inr e, h')) (f : UInt32 → jx_H → jx_R) : jx_cF C m as h f = some (.inr e, h') := by
  simp only [jx_cF, h1]
theorem jx_hF_i {C : jx_C} {m : Nat} {as : List Value} {h : jx_H} {hs : List (String × Nat)} {f : UInt32 → jx_H → jx_R} {g : Nat → jx_H → jx_R} {r : jx_O} (hr : jx_hF C m as h hs f g = some r) : (∃ x h', C m as h = some (.inl (some (.float x)), h') ∧ f x h' = some r) ∨ ∃ e h', C m as h = some (.inr e, h') ∧ jx_hd e hs (fun t => g t h') none = some r := by
  unfold jx_hF at hr
  split at hr
  · rename_i x h' e
    exact Or.inl ⟨x, h', e, hr⟩
  · rename_i e h' e2
    exact Or.inr ⟨e, h', e2, hr⟩
  · cases hr
theorem jx_hF_e {C : jx_C} {m : Nat} {as : List Value} {h h' : jx_H} {hs : List (String × Nat)} {x : UInt32} (h1 : C m as h = some (.inl (some (.float x)), h')) (f : UInt32 → jx_H → jx_R) (g : Nat → jx_H → jx_R) : jx_hF C m as h hs f g = f x h' := by
  simp only [jx_hF, h1]
theorem jx_hF_x {C : jx_C} {m : Nat} {as : List Value} {h h' : jx_H} {hs : List (String × Nat)} {e : String} (h1 : C m as h = some (.inr e, h')) (f : UInt32 → jx_H → jx_R) (g : Nat → jx_H → jx_R) : jx_hF C m as h hs f g = jx_hd e hs (fun t => g t h') none := by
  simp only [jx_hF, h1]
theorem jx_cD_i {C : jx_C} {m : Nat} {as : List Value} {h : jx_H} {f : UInt64 → jx_H → jx_R} {r : jx_O} (hr : jx_cD C m as h f = some r) : (∃ x h', C m as h = some (.inl (some (.double x)), h') ∧ f x h' = some r) ∨ ∃ e h', C m as h = some (.inr e, h') ∧ r = (.inr e, h') := by
  unfold jx_cD at hr
  split at hr
  · rename_i x h' e
    exact Or.inl ⟨x, h', e, hr⟩
  · rename_i e h' e2
    exact Or.inr ⟨e, h', e2, (Option.some.inj hr).symm⟩
  · cases hr
theorem jx_cD_e {C : jx_C} {m : Nat} {as : List Value} {h h' : jx_H} {x : UInt64} (h1 : C m as h = some (.inl (some (.double x)), h')) (f : UInt64 → jx_H → jx_R) : jx_cD C m as h f = f x h' := by
  simp only [jx_cD, h1]
theorem jx_cD_x {C : jx_C} {m : Nat} {as : List Value} {h h' : jx_H} {e : String} (h1 : C m as h = some (.inr e, h')) (f : UInt64 → jx_H → jx_R) : jx_cD C m as h f = some (.inr e, h') := by
  simp only [jx_cD, h1]
theorem jx_hD_i {C : jx_C} {m : Nat} {as : List Value} {h : jx_H} {hs : List (String × Nat)} {f : UInt64 → jx_H → jx_R} {g : Nat → jx_H → jx_R} {r : jx_O} (hr : jx_hD C m as h hs f g = some r) : (∃ x h', C m as h = some (.inl (some (.double x)), h') ∧ f x h' = some r) ∨ ∃ e h', C m as h = some (.inr e, h') ∧ jx_hd e hs (fun t => g t h') none = some r := by
  unfold jx_hD at hr
  split at hr
  · rename_i x h' e
    exact Or.inl ⟨x, h', e, hr⟩
  · rename_i e h' e2
    exact Or.inr ⟨e, h', e2, hr⟩
  · cases hr
theorem jx_hD_e {C : jx_C} {m : Nat} {as : List Value} {h h' : jx_H} {hs : List (String × Nat)} {x : UInt64} (h1 : C m as h = some (.inl (some (.double x)), h')) (f : UInt64 → jx_H → jx_R) (g : Nat → jx_H → jx_R) : jx_hD C m as h hs f g = f x h' := by
  simp only [jx_hD, h1]
theorem jx_hD_x {C : jx_C} {m : Nat} {as : List Value} {h h' : jx_H} {hs : List (String × Nat)} {e : String} (h1 : C m as h = some (.inr e, h')) (f : UInt64 → jx_H → jx_R) (g : Nat → jx_H → jx_R) : jx_hD C m as h hs f g = jx_hd e hs (fun t => g t h') none := by
  simp only [jx_hD, h1]
theorem jx_cA_i {C : jx_C} {m : Nat} {as : List Value} {h : jx_H} {f : Nat → jx_H → jx_R} {r : jx_O} (hr : jx_cA C m as h f = some r) : (∃ x h', C m as h = some (.inl (some (.ref x)), h') ∧ f x h' = some r) ∨ ∃ e h', C m as h = some (.inr e, h') ∧ r = (.inr e, h') := by
  unfold jx_cA at hr
  split at hr
  · rename_i x h' e
    exact Or.inl ⟨x, h', e, hr⟩
  · rename_i e h' e2
    exact Or.inr ⟨e, h', e2, (Option.some.inj hr).symm⟩
  · cases hr
theorem jx_cA_e {C : jx_C} {m : Nat} {as : List Value} {h h' : jx_H} {x : Nat} (h1 : C m as h = some (.inl (some (.ref x)), h')) (f : Nat → jx_H → jx_R) : jx_cA C m as h f = f x h' := by
  simp only [jx_cA, h1]
theorem jx_cA_x {C : jx_C} {m : Nat} {as : List Value} {h h' : jx_H} {e : String} (h1 : C m as h = some (.inr e, h')) (f : Nat → jx_H → jx_R) : jx_cA C m as h f = some (.inr e, h') := by
  simp only [jx_cA, h1]
theorem jx_cV_i {C : jx_C} {m : Nat} {as : List Value} {h : jx_H} {f : jx_H → jx_R} {r : jx_O} (hr : jx_cV C m as h f = some r) : (∃ h', C m as h = some (.inl none, h') ∧ f h' = some r) ∨ ∃ e h', C m as h = some (.inr e, h') ∧ r = (.inr e, h') := by
  unfold jx_cV at hr
  split at hr
  · rename_i h' e
    exact Or.inl ⟨h', e, hr⟩
  · rename_i e h' e2
    exact Or.inr ⟨e, h', e2, (Option.some.inj hr).symm⟩
  · cases hr
theorem jx_cV_e {C : jx_C} {m : Nat} {as : List Value} {h h' : jx_H} (h1 : C m as h = some (.inl none, h')) (f : jx_H → jx_R) : jx_cV C m as h f = f h' := by
  simp only [jx_cV, h1]
theorem jx_cV_x {C : jx_C} {m : Nat} {as : List Value} {h h' : jx_H} {e : String} (h1 : C m as h = some (.inr e, h')) (f : jx_H → jx_R) : jx_cV C m as h f = some (.inr e, h') := by
  simp only [jx_cV, h1]
theorem jx_cN_i {C : jx_C} {m : Nat} {as : List Value} {h : jx_H} {f : Nat → jx_H → jx_R} {g : jx_H → jx_R} {r : jx_O} (hr : jx_cN C m as h f g = some r) : (∃ x h', C m as h = some (.inl (some (.ref x)), h') ∧ f x h' = some r) ∨ (∃ h', C m as h = some (.inl (some .null), h') ∧ g h' = some r) ∨ ∃ e h', C m as h = some (.inr e, h') ∧ r = (.inr e, h') := by
  unfold jx_cN at hr
  split at hr
  · rename_i x h' e
    exact Or.inl ⟨x, h', e, hr⟩
  · rename_i h' e
    exact Or.inr (Or.inl ⟨h', e, hr⟩)
  · rename_i e h' e2
    exact Or.inr (Or.inr ⟨e, h', e2, (Option.some.inj hr).symm⟩)
  · cases hr
theorem jx_cN_e {C : jx_C} {m : Nat} {as : List Value} {h h' : jx_H} {x : Nat} (h1 : C m as h = some (.inl (some (.ref x)), h')) (f : Nat → jx_H → jx_R) (g : jx_H → jx_R) : jx_cN C m as h f g = f x h' := by
  simp only [jx_cN, h1]
theorem jx_cN_n {C : jx_C} {m : Nat} {as : List Value} {h h' : jx_H} (h1 : C m as h = some (.inl (some .null), h')) (f : Nat → jx_H → jx_R) (g : jx_H → jx_R) : jx_cN C m as h f g = g h' := by
  simp only [jx_cN, h1]
theorem jx_cN_x {C : jx_C} {m : Nat} {as : List Value} {h h' : jx_H} {e : String} (h1 : C m as h = some (.inr e, h')) (f : Nat → jx_H → jx_R) (g : jx_H → jx_R) : jx_cN C m as h f g = some (.inr e, h') := by
  simp only [jx_cN, h1]
end JX
