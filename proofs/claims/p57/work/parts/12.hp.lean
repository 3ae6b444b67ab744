section JS
theorem js_inw {ws : List Jvm.Cond} (h : ∀ w ∈ ws, w ∈ lw_tbl) (hg : ws.all goodWord = true) : ∀ w ∈ ws, w ∈ js_ws := fun w hw => js_ws_m (h w hw) (List.all_eq_true.mp hg w hw)
def js_cls (t : Nat) (C : String) (T : u_T) (N : Nat) (ty : Nat → FieldType) : Prop :=
  js_cl[t]? = some (C, T, N) ∧ (∀ w ∈ u_ws C T N, w ∈ js_ws) ∧ (∀ k, k < N → parseFieldDescriptor (T k).2.2.1 = some (ty k)) ∧ (∀ a, a < N → ∀ b, b < N → a ≠ b → (T a).2.1 ≠ (T b).2.1)
theorem js_c0 : js_cls 0 RX1 TX1 4 tyX1 := ⟨rfl, js_inw inX1 (by decide +kernel), tyX1_ok, nmX1⟩
theorem js_c1 : js_cls 1 RX2 TX2 2 tyX2 := ⟨rfl, js_inw inX2 (by decide +kernel), tyX2_ok, nmX2⟩
theorem js_c2 : js_cls 2 RX3 TX3 5 tyX3 := ⟨rfl, js_inw inX3 (by decide +kernel), tyX3_ok, nmX3⟩
theorem js_c3 : js_cls 3 RX4 TX4 2 tyX4 := ⟨rfl, js_inw inX4 (by decide +kernel), tyX4_ok, nmX4⟩
theorem js_c4 : js_cls 4 RX5 TX5 4 tyX5 := ⟨rfl, js_inw inX5 (by decide +kernel), tyX5_ok, nmX5⟩
theorem js_c5 : js_cls 5 RX6 TX6 3 tyX6 := ⟨rfl, js_inw inX6 (by decide +kernel), tyX6_ok, nmX6⟩
theorem js_c6 : js_cls 6 RX8 TX8 5 tyX8 := ⟨rfl, js_inw inX8 (by decide +kernel), tyX8_ok, nmX8⟩
theorem js_c7 : js_cls 7 RX9 TX9 11 tyX9 := ⟨rfl, js_inw inX9 (by decide +kernel), tyX9_ok, nmX9⟩
theorem js_c8 : js_cls 8 RJ4 TJ4 4 tyJ4 := ⟨rfl, js_inw inJ4 (by decide +kernel), tyJ4_ok, nmJ4⟩
theorem js_c20 : js_cls 20 RJ0 TJ0 4 tyJ0 := ⟨rfl, js_inw inJ0 (by decide +kernel), tyJ0_ok, nmJ0⟩
theorem js_lt9 {t : Nat} {q : vw_C} (h : js_cl[t]? = some q) : t < 21 := (List.getElem?_eq_some_iff.mp h).1
theorem js_at100 {t : Nat} (ht : t ∈ js_at) : 100 ≤ t := by
  simp only [js_at, List.mem_cons, List.not_mem_nil, or_false] at ht
  omega
theorem js_no9 {t : Nat} {q : vw_C} (h : js_cl[t]? = some q) (ht : t ∈ js_at) : False := by
  have h1 := js_lt9 h
  have := js_at100 ht
  omega
theorem js_A_ad {G : js_G} {a : Nat} (h : jx_nc ≤ a) : js_A G (js_ad G a) := by
  unfold js_A js_ad
  rw [if_neg (Nat.not_lt.mpr h)]
  exact Nat.le_add_right _ _
theorem js_ad_inj {G : js_G} {a b : Nat} (ha : jx_nc ≤ a) (hb : jx_nc ≤ b) (h : js_ad G a = js_ad G b) : a = b := by
  unfold js_ad at h
  rw [if_neg (Nat.not_lt.mpr ha), if_neg (Nat.not_lt.mpr hb)] at h
  have z3 : a - jx_nc = b - jx_nc := Nat.add_left_cancel h
  exact (Nat.sub_add_cancel ha).symm.trans ((congrArg (· + jx_nc) z3).trans (Nat.sub_add_cancel hb))
theorem js_X_kept {G : js_G} {H H1 : Heap} {q : Nat} {o : jx_Ob} (h : js_X G H q o) (e : H1[js_ad G q]? = H[js_ad G q]?) : js_X G H1 q o := by
  rcases h with ⟨r, h1, h2, h3⟩ | ⟨h1, h2, h3⟩
  · exact Or.inl ⟨r, h1, h2, h3.kept e⟩
  · exact Or.inr ⟨h1, e.trans h2, h3⟩
theorem js_S_upd {G : js_G} {s : State} {H H' : Heap} {locs : List Loc} {h : jx_H} {a i : Nat} {o o' : jx_Ob} (hS : js_S G s H locs h) (ha : jx_nc ≤ a) (hh : h.1 a = some o) (e2 : H'.size = H.size) (e3 : ∀ q, q ≠ js_ad G a → H'[q]? = H[q]?) (hX : js_X G H' a o') : js_S G s H' (locs ++ [⟨js_ad G a, i⟩]) (jx_set h a o') := by
  obtain ⟨⟨g1, g2, g3, g4, g5, g6⟩, hv⟩ := hS
  refine ⟨⟨fun q o2 hq ho => ?_, fun q hq => ?_, g3, g4, fun z => by rw [e2]; exact g5 z, by rw [e2]; exact g6⟩, hv.put e2 e3 (js_A_ad ha)⟩
  · by_cases hqa : q = a
    · subst hqa
      have : (jx_set h q o').1 q = some o' := by show (bif q == q then some o' else h.1 q) = _; rw [beq_self_eq_true]; rfl
      rw [this] at ho
      cases ho
      exact ⟨hX, (g1 _ _ ha hh).2⟩
    · have : (jx_set h a o').1 q = h.1 q := by
        show (bif q == a then some o' else h.1 q) = _
        rw [beq_eq_false_iff_ne.mpr hqa]; rfl
      rw [this] at ho
      obtain ⟨k1, k2⟩ := g1 q o2 hq ho
      exact ⟨js_X_kept k1 (e3 _ (fun z => hqa (js_ad_inj hq ha z))), k2⟩
  · have : (jx_set h a o').1 q = h.1 q := by
      show (bif q == a then some o' else h.1 q) = _
      rw [beq_eq_false_iff_ne.mpr (fun z => by subst z; exact Nat.not_lt.mpr ha hq)]; rfl
    rw [this]
    exact g2 q hq
theorem js_K20 {xs : List Int32} {a : Nat} {o : jx_Ob} (ho : jx_K0 xs a = some o) : 20 ≤ o.1 := by
  unfold jx_K0 at ho
  split at ho <;> first | (cases ho; done) | (cases ho; exact Nat.le_of_ble_eq_true rfl)
/-- an object that is no constant -/
theorem js_ob2 {G : js_G} {s : State} {H : Heap} {locs : List Loc} {h : jx_H} {a t : Nat} {fs : List Value} {C : String} {T : u_T} {N : Nat} {ty : Nat → FieldType} (hS : js_S G s H locs h) (hc : js_cls t C T N ty) (ha : jx_nc ≤ a) (h1 : h.1 a = some (t, fs)) : fs.length = N ∧ t_OB (js_ad G a) (G.1 t) N (G.2.1 t) H (vp_V (fs.map (js_v G))) := by
  obtain ⟨hx, -⟩ := hS.1.1 a _ ha h1
  rcases hx with ⟨r, k1, k2, k3⟩ | ⟨k1, -⟩
  · have hr : r = (C, T, N) := Option.some.inj (k1.symm.trans hc.1)
    subst hr
    exact ⟨k2, k3⟩
  · exact (js_no9 hc.1 k1).elim
/-- an object at its place -/
theorem js_ob {G : js_G} {s : State} {H : Heap} {locs : List Loc} {h : jx_H} {a t : Nat} {fs : List Value} {C : String} {T : u_T} {N : Nat} {ty : Nat → FieldType} (hS : js_S G s H locs h) (hc : js_cls t C T N ty) (ht : t < 20) (h1 : h.1 a = some (t, fs)) : jx_nc ≤ a ∧ fs.length = N ∧ t_OB (js_ad G a) (G.1 t) N (G.2.1 t) H (vp_V (fs.map (js_v G))) := by
  have ha : jx_nc ≤ a := by
    rcases Nat.lt_or_ge a jx_nc with q | q
    · have e := hS.1.2.1 a q
      rw [h1] at e
      have := js_K20 e.symm
      dsimp only at this
      omega
    · exact q
  exact ⟨ha, js_ob2 hS hc ha h1⟩
theorem js_at_of {G : js_G} {H : Heap} {a t : Nat} {fs : List Value} {r : vw_C} (hc : js_cl[t]? = some r) (h : t_OB (js_ad G a) (G.1 t) r.2.2 (G.2.1 t) H (vp_V (fs.map (js_v G)))) : va_P (G.1, G.2.1) js_cl [(js_ad G a, .inr (t, fs.map (js_v G)))] H := by
  intro k q hq
  cases k with
  | zero => cases hq; exact ⟨r, hc, h⟩
  | succ k => cases hq
/-- a row at its place -/
theorem js_ar {G : js_G} {s : State} {H : Heap} {locs : List Loc} {h : jx_H} {a t : Nat} {vs : List Value} (hE : js_Ev G s s.heap) (hS : js_S G s H locs h) (ht : 100 ≤ t) (h1 : h.1 a = some (t, vs)) : ∃ cell : Cell, H[js_ad G a]? = some cell ∧ s.isArrayOf cell (js_ty t) ∧ cell.vm ≠ .unknown ∧ cell.slots.size.toInt32 = nI vs.length ∧ vs.length ≤ cell.slots.size ∧ (∀ (j : Nat) (v : Value), vs[j]? = some v → cell.slots[j]? = some (js_v G v)) ∧
    (jx_nc ≤ a → t ∈ js_at ∧ cell = { cls := G.2.2.1 t, slots := (vs.map (js_v G)).toArray, vm := .none }) := by
  rcases Nat.lt_or_ge a jx_nc with q | q
  · have e := hS.1.2.1 a q
    rw [h1] at e
    rcases hE.2.2.2.1 a _ q e.symm with ⟨-, hT⟩ | ⟨k1, -⟩
    · obtain ⟨cell, c1, c2, c3, c4, c5, c6, -⟩ := hT.kept hS.2.2.1
      refine ⟨cell, c1, c2, c3, c5, c4, fun j v hj => ?_, fun z => absurd q (Nat.not_lt.mpr z)⟩
      have hl : j < vs.length := (List.getElem?_eq_some_iff.mp hj).1
      rw [c6 j hl]
      show some (js_v G (vs.getD j .null)) = _
      rw [List.getD_eq_getElem?_getD, hj]
      rfl
    · dsimp only at k1; omega
  · obtain ⟨hx, -⟩ := hS.1.1 a _ q h1
    rcases hx with ⟨r, k1, -⟩ | ⟨k1, k2, -⟩
    · have := js_lt9 k1
      dsimp only at this; omega
    · obtain ⟨hA, -⟩ := hE.2.2.1 t k1
      refine ⟨_, k2, ⟨(fun k z => by cases z), (hA 0 (fun _ => .null)).2⟩, (fun z => by cases z), ?_, ?_, fun j v hj => ?_, fun _ => ⟨k1, rfl⟩⟩
      · show ((vs.map (js_v G)).toArray.size).toInt32 = _
        rw [List.size_toArray, List.length_map]; rfl
      · show _ ≤ (vs.map (js_v G)).toArray.size
        rw [List.size_toArray, List.length_map]; exact Nat.le_refl _
      · show (vs.map (js_v G)).toArray[j]? = _
        rw [List.getElem?_toArray, List.getElem?_map, hj]; rfl
theorem js_in {vs : List Value} {i : Int32} {cell : Cell} (h0 : 0 ≤ i) (h1 : i.toNatClampNeg < vs.length) (h2 : vs.length ≤ cell.slots.size) : ¬ (i < 0 ∨ cell.slots.size ≤ i.toNatClampNeg) := by
  rintro (h | h)
  · exact absurd h0 (Int32.not_le.mpr h)
  · omega
theorem js_K104 {xs : List Int32} {a : Nat} {vs : List Value} (ho : jx_K0 xs a = some (104, vs)) : ∀ v, v ∈ vs → fits .byte v = true := by
  have key : vs.all (fits .byte) = true := by
    unfold jx_K0 at ho
    split at ho <;> first | (cases ho; done) | (cases ho; decide +kernel)
  exact fun v hv => List.all_eq_true.mp key v hv
/-- what lies in a row of bytes fits there -/
theorem js_fit {G : js_G} {s : State} {H : Heap} {locs : List Loc} {h : jx_H} {a : Nat} {vs : List Value} (hS : js_S G s H locs h) (h1 : h.1 a = some (104, vs)) : ∀ v, v ∈ vs → fits .byte v = true := by
  rcases Nat.lt_or_ge a jx_nc with q | q
  · have e := hS.1.2.1 a q
    rw [h1] at e
    exact js_K104 e.symm
  · obtain ⟨hx, -⟩ := hS.1.1 a _ q h1
    rcases hx with ⟨r, k1, -⟩ | ⟨-, -, k3⟩
    · exact absurd (show 104 < 21 from js_lt9 k1) (by decide)
    · exact k3 rfl
theorem fa_nb (y : Int32) : fits .byte (.int y.toInt8.toInt32) = true := by
  have h1 := y.toInt8.toInt_lt
  have h2 := y.toInt8.le_toInt
  have e := Int8.toInt_toInt32 y.toInt8
  show (decide (-128 ≤ y.toInt8.toInt32) && decide (y.toInt8.toInt32 ≤ 127)) = true
  rw [Bool.and_eq_true, decide_eq_true_eq, decide_eq_true_eq, Int32.le_iff_toInt_le, Int32.le_iff_toInt_le, e]
  exact ⟨by show (-128 : Int) ≤ _; omega, by show _ ≤ (127 : Int); omega⟩
/-- a store into a row -/
theorem js_X_st {G : js_G} {H' : Heap} {a t j : Nat} {vs : List Value} {v : Value} (ht : t ∈ js_at) (e : H'[js_ad G a]? = some (({ cls := G.2.2.1 t, slots := (vs.map (js_v G)).toArray, vm := .none } : Cell).setSlot j (js_v G v))) (hf : t = 104 → (∀ u, u ∈ vs → fits .byte u = true) ∧ fits .byte v = true) : js_X G H' a (t, vs.set j v) := by
  refine Or.inr ⟨ht, e.trans (congrArg some ?_), fun z u hu => ?_⟩
  · show ({ cls := G.2.2.1 t, slots := (vs.map (js_v G)).toArray.setIfInBounds j (js_v G v), vm := .none } : Cell) = _
    congr 1
    rw [List.setIfInBounds_toArray, List.map_set]
  · obtain ⟨f1, f2⟩ := hf z
    rcases List.mem_or_eq_of_mem_set hu with k | k
    · exact f1 u k
    · rw [k]; exact f2
end JS
