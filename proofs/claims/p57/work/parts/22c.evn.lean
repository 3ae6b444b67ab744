/-! What the law starts from: the classes, the statics, the strings. -/
section LK
variable {a : Array Value} {s : State} {ci : Nat → ClassId} {sl : Nat → Nat → Nat} {rc : Nat → ClassId} {xs : List Int32}
theorem lk_nw (hts : ∀ w ∈ lw_tbl, w.before a s = true) : ∀ w, w ∈ lw_tbl → js_nw w = true → va_Nw w s := by
  intro w hw hn
  have h := hts w hw
  cases w with
  | arrayOver ty => cases ty <;> first | exact va_AO.of h | cases hn
  | _ => first | exact va_Nw.of rfl h | cases hn
theorem lk_k1 {C : String} {T : u_T} {N n : Nat} (hts : ∀ w ∈ lw_tbl, w.before a s = true) (hin : ∀ w ∈ u_ws C T N, w ∈ lw_tbl) (hi : Jvm.Cond.instantiable C n ∈ lw_tbl) (k : Nat) (hk : js_cl[k]? = some (C, T, N)) : ∃ y : ClassId × (Nat → Nat), ∀ q : vw_C, js_cl[k]? = some q → u_Kn s q.1 q.2.1 q.2.2 y.1 y.2 := by
  obtain ⟨cC, iS, h⟩ := u_known hts hin (hts _ hi)
  refine ⟨(cC, iS), fun q hq => ?_⟩
  rw [hk] at hq
  cases hq
  exact h
theorem lk_K (hts : ∀ w ∈ lw_tbl, w.before a s = true) : ∃ (ci : Nat → ClassId) (sl : Nat → Nat → Nat), va_K (ci, sl) js_cl [] s := by
  have h0 : ∀ c : Nat, ∃ y : ClassId × (Nat → Nat), ∀ q : vw_C, js_cl[c]? = some q → u_Kn s q.1 q.2.1 q.2.2 y.1 y.2 := by
    intro c
    match c with
    | 0 => exact lk_k1 (n := 4) hts inX1 (by decide +kernel) 0 rfl
    | 1 => exact lk_k1 (n := 2) hts inX2 (by decide +kernel) 1 rfl
    | 2 => exact lk_k1 (n := 5) hts inX3 (by decide +kernel) 2 rfl
    | 3 => exact lk_k1 (n := 2) hts inX4 (by decide +kernel) 3 rfl
    | 4 => exact lk_k1 (n := 4) hts inX5 (by decide +kernel) 4 rfl
    | 5 => exact lk_k1 (n := 3) hts inX6 (by decide +kernel) 5 rfl
    | 6 => exact lk_k1 (n := 5) hts inX8 (by decide +kernel) 6 rfl
    | 7 => exact lk_k1 (n := 11) hts inX9 (by decide +kernel) 7 rfl
    | 8 => exact lk_k1 (n := 4) hts inJ4 (by decide +kernel) 8 rfl
    | 9 => exact lk_k1 (n := 4) hts inX1 (by decide +kernel) 9 rfl
    | 10 => exact lk_k1 (n := 4) hts inX1 (by decide +kernel) 10 rfl
    | 11 => exact lk_k1 (n := 4) hts inX1 (by decide +kernel) 11 rfl
    | 12 => exact lk_k1 (n := 4) hts inX1 (by decide +kernel) 12 rfl
    | 13 => exact lk_k1 (n := 4) hts inX1 (by decide +kernel) 13 rfl
    | 14 => exact lk_k1 (n := 4) hts inX1 (by decide +kernel) 14 rfl
    | 15 => exact lk_k1 (n := 4) hts inX1 (by decide +kernel) 15 rfl
    | 16 => exact lk_k1 (n := 4) hts inX1 (by decide +kernel) 16 rfl
    | 17 => exact lk_k1 (n := 4) hts inX1 (by decide +kernel) 17 rfl
    | 18 => exact lk_k1 (n := 4) hts inX1 (by decide +kernel) 18 rfl
    | 19 => exact lk_k1 (n := 4) hts inX1 (by decide +kernel) 19 rfl
    | 20 => exact lk_k1 (n := 4) hts inJ0 (by decide +kernel) 20 rfl
    | k + 21 => exact ⟨(0, fun _ => 0), fun q hq => by cases hq⟩
  obtain ⟨f, hf⟩ := Classical.axiomOfChoice h0
  exact ⟨fun c => (f c).1, fun c => (f c).2, fun c q hq => hf c q hq, fun k q hk => by cases hk⟩
theorem lk_ap {ty : FieldType} (h : (Jvm.Cond.arrayClass ty).before a s = true) : ∃ cA : ClassId, ArrOfT s cA ty ∧ s.vm.findClass ("[" ++ ty.toString) = some cA := by
  obtain ⟨c, k, comp, h1, h2, h3⟩ := Cond.arrayClass_spec h
  exact ⟨c, fun N z => ⟨(fun k h => by cases h), k, h2, comp, h3⟩, h1⟩
theorem lk_ao {C : String} (h : (Jvm.Cond.arrayOver (.object C)).before a s = true) : ∃ cA : ClassId, ArrOfT s cA (.object C) ∧ va_RA s cA (.object C) := by
  obtain ⟨comp, c, k, h1, h2, h3, h4, h5⟩ := Cond.arrayOver_spec h
  exact ⟨c, fun N z => ⟨(fun k h => by cases h), k, h3, comp, h4⟩, k, comp, h3, h4, h1, h5⟩
theorem lk_rc (hts : ∀ w ∈ lw_tbl, w.before a s = true) : ∃ rc : Nat → ClassId, ∀ t, t ∈ js_at → ArrOfT s (rc t) (js_ty t) ∧ va_RA s (rc t) (js_ty t) := by
  have h0 : ∀ t : Nat, ∃ cA : ClassId, t ∈ js_at → ArrOfT s cA (js_ty t) ∧ va_RA s cA (js_ty t) := by
    intro t
    by_cases h : t ∈ js_at
    · simp only [js_at, List.mem_cons, List.not_mem_nil, or_false] at h
      rcases h with rfl | rfl | rfl | rfl | rfl | rfl | rfl | rfl
      · obtain ⟨c, h1, h2⟩ := lk_ap (hts (.arrayClass .int) (by decide +kernel)); exact ⟨c, fun _ => ⟨h1, h2⟩⟩
      · obtain ⟨c, h1, h2⟩ := lk_ap (hts (.arrayClass .char) (by decide +kernel)); exact ⟨c, fun _ => ⟨h1, h2⟩⟩
      · obtain ⟨c, h1, h2⟩ := lk_ap (hts (.arrayClass .long) (by decide +kernel)); exact ⟨c, fun _ => ⟨h1, h2⟩⟩
      · obtain ⟨c, h1, h2⟩ := lk_ap (hts (.arrayClass .byte) (by decide +kernel)); exact ⟨c, fun _ => ⟨h1, h2⟩⟩
      · obtain ⟨c, h1, h2⟩ := lk_ap (hts (.arrayClass .boolean) (by decide +kernel)); exact ⟨c, fun _ => ⟨h1, h2⟩⟩
      · obtain ⟨c, h1, h2⟩ := lk_ao (hts (.arrayOver (.object "MosaicCatalogue$Board")) (by decide +kernel)); exact ⟨c, fun _ => ⟨h1, h2⟩⟩
      · obtain ⟨c, h1, h2⟩ := lk_ao (hts (.arrayOver (.object "MosaicCatalogue$Fragment")) (by decide +kernel)); exact ⟨c, fun _ => ⟨h1, h2⟩⟩
      · obtain ⟨c, h1, h2⟩ := lk_ao (hts (.arrayOver (.object "MosaicCatalogue$Command")) (by decide +kernel)); exact ⟨c, fun _ => ⟨h1, h2⟩⟩
    · exact ⟨0, fun z => absurd z h⟩
  exact Classical.axiomOfChoice h0
theorem lk_z (hts : ∀ w ∈ lw_tbl, w.before a s = true) (hs : ∀ w ∈ flatC narrow_1, w.before a s = true) : ∀ z, z ∈ js_zl → va_Z z.1 z.2.1 z.2.2.1 (js_v (lk_G ci sl rc a s xs) z.2.2.2) (js_A (lk_G ci sl rc a s xs)) s s.heap := by
  have hw : ∀ z, z ∈ js_zl → Jvm.Cond.laysStatic z.1 z.2.1 z.2.2.1 ∈ lw_tbl ∧ Jvm.Cond.initialized z.1 ∈ lw_tbl := by decide +kernel
  intro z hz
  obtain ⟨w1, w2⟩ := hw z hz
  refine va_Zof (hts _ w1) (hts _ w2) ?_ (fun _ h => lk_A h)
  simp only [js_zl, List.mem_cons, List.not_mem_nil, or_false] at hz
  rcases hz with rfl | rfl | rfl | rfl | rfl | rfl | rfl | rfl
  · exact (lk_c0 (ci := ci) (sl := sl) (rc := rc) (xs := xs) hs).1
  · exact (lk_c1 (ci := ci) (sl := sl) (rc := rc) (xs := xs) hs).1
  · exact (lk_c2 (ci := ci) (sl := sl) (rc := rc) (xs := xs) hs).1
  · exact (lk_c3 (ci := ci) (sl := sl) (rc := rc) (xs := xs) hs).1
  · exact (lk_c9 (ci := ci) (sl := sl) (rc := rc) (xs := xs) hs).1
  · exact (lk_c26 (ci := ci) (sl := sl) (rc := rc) (xs := xs) hs).1
  · exact (lk_c27 (ci := ci) (sl := sl) (rc := rc) (xs := xs) hs).1
  · exact va_eqi (lk_at 22 (by decide +kernel) hs)
theorem lk_s (hts : ∀ w ∈ lw_tbl, w.before a s = true) (hs : ∀ w ∈ flatC narrow_1, w.before a s = true) : ∀ z, z ∈ js_sl → vk_R z.1 z.2.1 z.2.2.1 (js_ad (lk_G ci sl rc a s xs) z.2.2.2) s := by
  have hw : ∀ z, z ∈ js_sl → Jvm.Cond.stringRef z.1 z.2.1 z.2.2.1 ∈ lw_tbl := by decide +kernel
  intro z hz
  refine vk_R.of (hts _ (hw z hz)) ?_
  simp only [js_sl, List.mem_cons, List.not_mem_nil, or_false] at hz
  rcases hz with rfl | rfl | rfl | rfl | rfl | rfl | rfl
  · exact (lk_c30 (ci := ci) (sl := sl) (rc := rc) (xs := xs) hs).1
  · exact (lk_c31 (ci := ci) (sl := sl) (rc := rc) (xs := xs) hs).1
  · exact (lk_c32 (ci := ci) (sl := sl) (rc := rc) (xs := xs) hs).1
  · exact (lk_c33 (ci := ci) (sl := sl) (rc := rc) (xs := xs) hs).1
  · exact (lk_c34 (ci := ci) (sl := sl) (rc := rc) (xs := xs) hs).1
  · exact (lk_c35 (ci := ci) (sl := sl) (rc := rc) (xs := xs) hs).1
  · exact (lk_c36 (ci := ci) (sl := sl) (rc := rc) (xs := xs) hs).1
theorem lk_x (hts : ∀ w ∈ lw_tbl, w.before a s = true) (hs : ∀ w ∈ flatC narrow_1, w.before a s = true) : ∀ z, z ∈ js_xl → ∃ sa, vk_R "MosaicCatalogue" z.1 z.2 sa s := by
  have hw : ∀ z, z ∈ js_xl → Jvm.Cond.stringRef "MosaicCatalogue" z.1 z.2 ∈ lw_tbl ∧ Jvm.Cond.exactly (.string "MosaicCatalogue" z.1) "java/lang/String" ∈ flatC narrow_1 := by decide +kernel
  intro z hz
  obtain ⟨w1, w2⟩ := hw z hz
  obtain ⟨x, c, cell, k, q1, -⟩ := Cond.exactly_spec (hs _ w2)
  exact ⟨x, vk_R.of (hts _ w1) q1⟩
theorem lk_nc (hs : ∀ w ∈ flatC narrow_1, w.before a s = true) : js_Nc s := by
  have hw : ∀ z, z ∈ js_ncl → Jvm.Cond.not (.castable z.1 z.2) ∈ flatC narrow_1 := by decide +kernel
  exact fun z hz => va_Nc.of (hs _ (hw z hz))
theorem lk_ev {b : Nat} (hts : ∀ w ∈ lw_tbl, w.before a s = true) (hs : ∀ w ∈ flatC narrow_1, w.before a s = true) (e : a = #[.ref b]) (hX : va_X b xs.length (fun j => xs.getD j 0) s s.heap) (hL : xs.length < 2 ^ 31) : ∃ (ci : Nat → ClassId) (sl : Nat → Nat → Nat) (rc : Nat → ClassId), js_Ev (lk_G ci sl rc a s xs) s s.heap := by
  obtain ⟨ci, sl, hK⟩ := lk_K hts
  obtain ⟨rc, hR⟩ := lk_rc hts
  refine ⟨ci, sl, rc, lk_nw hts, hK, hR, fun q o _ ho => lk_cst hs e hX hL q o ho, lk_z hts hs, lk_s hts hs, lk_x hts hs, ?_, ?_, ?_⟩
  · exact va_Zqof (hts _ (by decide +kernel)) (hts _ (by decide +kernel)) (lk_at 23 (by decide +kernel) hs) (fun _ h => lk_A h)
  · exact vx_Zqof (hts _ (by decide +kernel)) (hts _ (by decide +kernel)) (lk_at 6 (by decide +kernel) hs) (fun _ h => lk_A h)
  · exact vx_Zqof (hts _ (by decide +kernel)) (hts _ (by decide +kernel)) (lk_at 7 (by decide +kernel) hs) (fun _ h => lk_A h)
/-- a private method of a class above is what a call selects -/
theorem lk_sel {y : MethodName} {C : String} {n : Nat} (hy : y.cls ≠ "java/lang/invoke/MethodHandle" ∧ y.cls ≠ "java/lang/invoke/VarHandle") (hins : (Cond.instantiable C n).before a s = true) (hpriv : (Cond.privateMethod y).before a s = true) (hinst : (Cond.instanceMethod y).before a s = true) (hsm : (Cond.sameMethod y.cls y.cls y.name y.desc).before a s = true) : (Cond.selects C y y).before a s = true := by
  obtain ⟨c, k, hc, -⟩ := Cond.instantiable_spec hins
  obtain ⟨mk, methM, hnamed, hmethM, -, -⟩ := Cond.instanceMethod_spec hinst
  have hfound : s.methodFound? y.cls y.name y.desc = some mk := State.methodFound?_of_named hnamed hy
  obtain ⟨-, k2, hk2, hni⟩ := Cond.sameMethod_spec (findClass_of_methodNamed hnamed) hfound hsm
  have hsel : selectMethod {} s.vm c mk = .method mk := selectMethod_private hmethM (Cond.privateMethod_at hpriv mk methM hnamed hmethM)
  simp only [Cond.before, Cond.holds, Cond.value, hc, hfound, hnamed, hsel, hk2]
  simp; exact hni
theorem lk_xs (hts : ∀ w ∈ lw_tbl, w.before a s = true) : ∀ w ∈ js_xs, w.before a s = true := by
  intro w hw
  obtain ⟨y, hy, rfl⟩ := List.mem_map.mp hw
  have h : ∀ y ∈ js_xy, (y.cls ≠ "java/lang/invoke/MethodHandle" ∧ y.cls ≠ "java/lang/invoke/VarHandle") ∧ Cond.instantiable "java/lang/StringBuilder" 4 ∈ lw_tbl ∧ Cond.privateMethod y ∈ lw_tbl ∧ Cond.instanceMethod y ∈ lw_tbl ∧ Cond.sameMethod y.cls y.cls y.name y.desc ∈ lw_tbl := by decide +kernel
  obtain ⟨h1, h2, h3, h4, h5⟩ := h y hy
  exact lk_sel h1 (hts _ h2) (hts _ h3) (hts _ h4) (hts _ h5)
end LK
