/-! What the law starts from: the constants, the classes, the strings. -/
section LK
/-- where constant q comes from -/
def lk_tm (q : Nat) : Jvm.Term := match q with
  | 0 => .static "MosaicCatalogue$1" "$SwitchMap$MosaicCatalogue$Keyword" "[I"
  | 1 => .static "MosaicCatalogue" "ROW_STEPS" "[I"
  | 2 => .static "MosaicCatalogue" "COLUMN_STEPS" "[I"
  | 3 => .static "MosaicCatalogue" "KEYWORDS" "[LMosaicCatalogue$Keyword;"
  | 4 => .static "MosaicCatalogue$Keyword" "NEW" "LMosaicCatalogue$Keyword;"
  | 5 => .static "MosaicCatalogue$Keyword" "PUT" "LMosaicCatalogue$Keyword;"
  | 6 => .static "MosaicCatalogue$Keyword" "TAKE" "LMosaicCatalogue$Keyword;"
  | 7 => .static "MosaicCatalogue$Keyword" "TURN" "LMosaicCatalogue$Keyword;"
  | 8 => .static "MosaicCatalogue$Keyword" "SWAP" "LMosaicCatalogue$Keyword;"
  | 9 => .static "MosaicCatalogue$Keyword" "FILL" "LMosaicCatalogue$Keyword;"
  | 10 => .static "MosaicCatalogue$Keyword" "DROP" "LMosaicCatalogue$Keyword;"
  | 11 => .string "MosaicCatalogue$Keyword" 52
  | 12 => .string "MosaicCatalogue$Keyword" 54
  | 13 => .string "MosaicCatalogue$Keyword" 60
  | 14 => .string "MosaicCatalogue$Keyword" 62
  | 15 => .string "MosaicCatalogue$Keyword" 65
  | 16 => .string "MosaicCatalogue$Keyword" 67
  | 17 => .string "MosaicCatalogue$Keyword" 70
  | 18 => .string "MosaicCatalogue$Keyword" 72
  | 19 => .string "MosaicCatalogue$Keyword" 75
  | 20 => .string "MosaicCatalogue$Keyword" 77
  | 21 => .string "MosaicCatalogue$Keyword" 80
  | 22 => .string "MosaicCatalogue$Keyword" 82
  | 23 => .string "MosaicCatalogue$Keyword" 85
  | 24 => .string "MosaicCatalogue$Keyword" 67
  | 26 => .static "java/lang/Integer" "DigitOnes" "[B"
  | 27 => .static "java/lang/Integer" "DigitTens" "[B"
  | 30 => .string "MosaicCatalogueLaw" 354
  | 31 => .string "MosaicCatalogueLaw" 376
  | 32 => .string "MosaicCatalogueLaw" 381
  | 33 => .string "MosaicCatalogueLaw" 406
  | 34 => .string "MosaicCatalogueLaw" 408
  | 35 => .string "MosaicCatalogueLaw" 410
  | 36 => .string "MosaicCatalogueLaw" 412
  | 51 => .field (.string "MosaicCatalogue$Keyword" 52) "java/lang/String" "value" "[B"
  | 52 => .field (.string "MosaicCatalogue$Keyword" 54) "java/lang/String" "value" "[B"
  | 53 => .field (.string "MosaicCatalogue$Keyword" 60) "java/lang/String" "value" "[B"
  | 54 => .field (.string "MosaicCatalogue$Keyword" 62) "java/lang/String" "value" "[B"
  | 55 => .field (.string "MosaicCatalogue$Keyword" 65) "java/lang/String" "value" "[B"
  | 56 => .field (.string "MosaicCatalogue$Keyword" 67) "java/lang/String" "value" "[B"
  | 57 => .field (.string "MosaicCatalogue$Keyword" 70) "java/lang/String" "value" "[B"
  | 58 => .field (.string "MosaicCatalogue$Keyword" 72) "java/lang/String" "value" "[B"
  | 59 => .field (.string "MosaicCatalogue$Keyword" 75) "java/lang/String" "value" "[B"
  | 60 => .field (.string "MosaicCatalogue$Keyword" 77) "java/lang/String" "value" "[B"
  | 61 => .field (.string "MosaicCatalogue$Keyword" 80) "java/lang/String" "value" "[B"
  | 62 => .field (.string "MosaicCatalogue$Keyword" 82) "java/lang/String" "value" "[B"
  | 63 => .field (.string "MosaicCatalogue$Keyword" 85) "java/lang/String" "value" "[B"
  | 64 => .field (.string "MosaicCatalogue$Keyword" 67) "java/lang/String" "value" "[B"
  | 70 => .field (.string "MosaicCatalogueLaw" 354) "java/lang/String" "value" "[B"
  | 71 => .field (.string "MosaicCatalogueLaw" 376) "java/lang/String" "value" "[B"
  | 72 => .field (.string "MosaicCatalogueLaw" 381) "java/lang/String" "value" "[B"
  | 73 => .field (.string "MosaicCatalogueLaw" 406) "java/lang/String" "value" "[B"
  | 74 => .field (.string "MosaicCatalogueLaw" 408) "java/lang/String" "value" "[B"
  | 75 => .field (.string "MosaicCatalogueLaw" 410) "java/lang/String" "value" "[B"
  | 76 => .field (.string "MosaicCatalogueLaw" 412) "java/lang/String" "value" "[B"
  | 199 => .arg 0
  | _ => .arg 0
def lk_ad (a : Array Value) (s : State) (q : Nat) : Nat := match (lk_tm q).eval a s none [] s with | some (.ref x) => x | _ => 0
def lk_E (a : Array Value) (s : State) (q : Nat) : Prop := (lk_tm q).eval a s none [] s = some (.ref (lk_ad a s q))
variable {a : Array Value} {s : State}
theorem lk_Eof {q x : Nat} (h : (lk_tm q).eval a s none [] s = some (.ref x)) : lk_ad a s q = x := by simp [lk_ad, h]
theorem lk_eqr {t u : Jvm.Term} {x : Nat} (h : (Jvm.Cond.eq t u).before a s = true) (hu : u.eval a s none [] s = some (.ref x)) : t.eval a s none [] s = some (.ref x) := by
  cases hv : t.eval a s none [] s with
  | none => simp [Cond.before, Cond.holds, Cond.value, hv] at h
  | some w =>
    simp only [Cond.before, Cond.holds, Cond.value, hv, hu] at h
    cases w <;> simp_all
/-- the real side, but the classes' numbers -/
def lk_G (ci : Nat → ClassId) (sl : Nat → Nat → Nat) (rc : Nat → ClassId) (a : Array Value) (s : State) (xs : List Int32) : js_G := (ci, sl, rc, lk_ad a s, s.heap.size, xs)
variable {ci : Nat → ClassId} {sl : Nat → Nat → Nat} {rc : Nat → ClassId} {xs : List Int32}
theorem lk_A {x : Nat} (h : x < s.heap.size) : ¬ js_A (lk_G ci sl rc a s xs) x := Nat.not_le.mpr h
def lk_row (tm : Jvm.Term) (ty : FieldType) (zs : List Int) : List Jvm.Cond := .arrayOf tm ty :: .eq (.length tm) (.int (Int32.ofNat zs.length)) :: (List.range zs.length).map (fun j => Jvm.Cond.eq (.elem tm (.int (Int32.ofNat j))) (.int (Int32.ofInt (zs.getD j 0))))
theorem lk_sl {L : List Jvm.Cond} (i n : Nat) (h : ((flatC narrow_1).drop i).take n = L) (hs : ∀ w ∈ flatC narrow_1, w.before a s = true) : ∀ w ∈ L, w.before a s = true := fun w hw => hs w (List.mem_of_mem_drop (List.mem_of_mem_take (h ▸ hw)))
theorem lk_at {w : Jvm.Cond} (i : Nat) (h : (flatC narrow_1)[i]? = some w) (hs : ∀ w ∈ flatC narrow_1, w.before a s = true) : w.before a s = true := hs w (List.mem_of_getElem? h)
theorem lk_int {q t : Nat} {zs : List Int} {o : jx_Ob} (ht : 100 ≤ t) (ho : o = (t, zs.map (fun z => Value.int (Int32.ofInt z)))) (hN : zs.length < 2 ^ 31) (hq : q < jx_nc) (h : ∀ w ∈ lk_row (lk_tm q) (js_ty t) zs, w.before a s = true) : lk_E a s q ∧ js_Cst (lk_G ci sl rc a s xs) s s.heap q o := by
  obtain ⟨x, hx, hT⟩ := va_Tof (A := js_A (lk_G ci sl rc a s xs)) (f := fun j => .int (Int32.ofInt (zs.getD j 0))) hN (h _ List.mem_cons_self) (va_eqt (h _ (List.mem_cons_of_mem _ List.mem_cons_self)))
    (fun j hj => va_eqt (h _ (List.mem_cons_of_mem _ (List.mem_cons_of_mem _ (List.mem_map.mpr ⟨j, List.mem_range.mpr hj, rfl⟩))))) (fun _ h => lk_A h)
  have e := lk_Eof hx
  subst ho
  refine ⟨by rw [lk_E, e]; exact hx, Or.inl ⟨ht, ?_⟩⟩
  have e2 : js_ad (lk_G ci sl rc a s xs) q = x := (if_pos hq).trans e
  obtain ⟨cell, c1, c2, c3, c4, c5, c6, c7⟩ := hT
  rw [e2]
  refine ⟨cell, c1, c2, c3, by rw [List.length_map]; exact c4, by rw [List.length_map]; exact c5, fun j hj => ?_, c7⟩
  have hj' : j < zs.length := by rw [List.length_map] at hj; exact hj
  rw [c6 j hj']
  have hl : (zs.map (fun z => Value.int (Int32.ofInt z)))[j]? = some (.int (Int32.ofInt zs[j])) := by simp [hj']
  show _ = some (js_v (lk_G ci sl rc a s xs) ((zs.map (fun z => Value.int (Int32.ofInt z))).getD j .null))
  rw [List.getD_eq_getElem?_getD, hl]
  show some (Value.int (Int32.ofInt (zs.getD j 0))) = some (Value.int (Int32.ofInt zs[j]))
  rw [List.getD_eq_getElem?_getD, List.getElem?_eq_getElem hj']
  rfl
theorem lk_O {t : Jvm.Term} {n : String} {x : Nat} {A : Nat → Prop} (hex : (Cond.exactly t n).before a s = true) (hA : ∀ x : Nat, x < s.heap.size → ¬ A x) : ∃ x, t.eval a s none [] s = some (.ref x) ∧ va_O n x A s s.heap := by
  obtain ⟨x, c, cell, k, q1, q2, q3, q4, q5, q6, -⟩ := Cond.exactly_spec hex
  exact ⟨x, q1, cell, q3, q5, by rw [q6]; exact q2, hA x (Array.getElem?_eq_some_iff.mp q3).1⟩
theorem lk_OF {t : Jvm.Term} {o n d : String} {x : Nat} {v : Value} {A : Nat → Prop} (ht : t.eval a s none [] s = some (.ref x)) (hv : (Term.field t o n d).eval a s none [] s = some v) (hA : ∀ x : Nat, x < s.heap.size → ¬ A x) : va_OF o n d v x A s s.heap := by
  cases hfo : s.fieldFound? o n d with
  | none =>
    rw [va_fe ht] at hv
    simp [State.fieldOf?, State.fieldNamed?, hfo] at hv
  | some y =>
    obtain ⟨cf, k, fi, f⟩ := y
    obtain ⟨g1, cell, g2, g3, -, -, g6⟩ := Term.field_spec hfo ht hv
    exact ⟨cf, k, fi, f, cell, hfo, g1, g2, g3, g6, hA _ (Array.getElem?_eq_some_iff.mp g2).1⟩
theorem lk_str {q r : Nat} (hq : q < jx_nc) (hr : r < jx_nc) (er : lk_tm r = .field (lk_tm q) "java/lang/String" "value" "[B") (h1 : (Cond.exactly (lk_tm q) "java/lang/String").before a s = true) (h2 : (Cond.eq (.field (lk_tm q) "java/lang/String" "coder" "B") (.int 0)).before a s = true) (hE : lk_E a s r) : lk_E a s q ∧ js_Cst (lk_G ci sl rc a s xs) s s.heap q (20, [.ref r, .int 0]) := by
  obtain ⟨x, hx, hO⟩ := lk_O (x := 0) (A := js_A (lk_G ci sl rc a s xs)) h1 (fun _ h => lk_A h)
  have e := lk_Eof hx
  have e2 : js_ad (lk_G ci sl rc a s xs) q = x := (if_pos hq).trans e
  have e3 : js_ad (lk_G ci sl rc a s xs) r = lk_ad a s r := if_pos hr
  refine ⟨by rw [lk_E, e]; exact hx, Or.inr ⟨(by decide : (20 : Nat) < 100), (by decide : 20 ≤ (20 : Nat)), by rw [e2]; exact hO, fun k v hk => ?_⟩⟩
  rw [e2]
  rw [lk_E, er] at hE
  match k with
  | 0 =>
    cases hk
    show va_OF "java/lang/String" "value" "[B" (.ref (js_ad (lk_G ci sl rc a s xs) r)) x _ s s.heap
    rw [e3]
    exact lk_OF hx hE (fun _ h => lk_A h)
  | 1 =>
    cases hk
    exact lk_OF hx (va_eqt h2) (fun _ h => lk_A h)
  | k + 2 => cases hk
theorem lk_kw {q w f : Nat} {o : Int32} (hq : q < jx_nc) (hw : w < jx_nc) (hf : f < jx_nc) (h1 : (Cond.exactly (lk_tm q) "MosaicCatalogue$Keyword").before a s = true) (h2 : (Cond.eq (.field (lk_tm q) "java/lang/Enum" "ordinal" "I") (.int o)).before a s = true)
    (h3 : (Cond.eq (.field (lk_tm q) "MosaicCatalogue$Keyword" "word" "Ljava/lang/String;") (lk_tm w)).before a s = true) (h4 : (Cond.eq (.field (lk_tm q) "MosaicCatalogue$Keyword" "form" "Ljava/lang/String;") (lk_tm f)).before a s = true) (ew : lk_E a s w) (ef : lk_E a s f) : lk_E a s q ∧ js_Cst (lk_G ci sl rc a s xs) s s.heap q (21, [.int o, .ref w, .ref f]) := by
  obtain ⟨x, hx, hO⟩ := lk_O (x := 0) (A := js_A (lk_G ci sl rc a s xs)) h1 (fun _ h => lk_A h)
  have e := lk_Eof hx
  have e2 : js_ad (lk_G ci sl rc a s xs) q = x := (if_pos hq).trans e
  have e3 : js_ad (lk_G ci sl rc a s xs) w = lk_ad a s w := if_pos hw
  have e4 : js_ad (lk_G ci sl rc a s xs) f = lk_ad a s f := if_pos hf
  refine ⟨by rw [lk_E, e]; exact hx, Or.inr ⟨(by decide : (21 : Nat) < 100), (by decide : 20 ≤ (21 : Nat)), by rw [e2]; exact hO, fun k v hk => ?_⟩⟩
  rw [e2]
  match k with
  | 0 =>
    cases hk
    exact lk_OF hx (va_eqt h2) (fun _ h => lk_A h)
  | 1 =>
    cases hk
    show va_OF "MosaicCatalogue$Keyword" "word" "Ljava/lang/String;" (.ref (js_ad (lk_G ci sl rc a s xs) w)) x _ s s.heap
    rw [e3]
    exact lk_OF hx (lk_eqr h3 ew) (fun _ h => lk_A h)
  | 2 =>
    cases hk
    show va_OF "MosaicCatalogue$Keyword" "form" "Ljava/lang/String;" (.ref (js_ad (lk_G ci sl rc a s xs) f)) x _ s s.heap
    rw [e4]
    exact lk_OF hx (lk_eqr h4 ef) (fun _ h => lk_A h)
  | k + 3 => cases hk

theorem lk_c0 (hs : ∀ w ∈ flatC narrow_1, w.before a s = true) : lk_E a s 0 ∧ js_Cst (lk_G ci sl rc a s xs) s s.heap 0 (100, [.int 1, .int 2, .int 3, .int 4, .int 5, .int 0, .int 6]) := lk_int (t := 100) (zs := [1, 2, 3, 4, 5, 0, 6]) (by decide) (by decide +kernel) (by decide) (by decide) (lk_sl 246 9 (by decide +kernel) hs)
theorem lk_c1 (hs : ∀ w ∈ flatC narrow_1, w.before a s = true) : lk_E a s 1 ∧ js_Cst (lk_G ci sl rc a s xs) s s.heap 1 (100, [.int (-1), .int 0, .int 1, .int 0]) := lk_int (t := 100) (zs := [-1, 0, 1, 0]) (by decide) (by decide +kernel) (by decide) (by decide) (lk_sl 9 6 (by decide +kernel) hs)
theorem lk_c2 (hs : ∀ w ∈ flatC narrow_1, w.before a s = true) : lk_E a s 2 ∧ js_Cst (lk_G ci sl rc a s xs) s s.heap 2 (100, [.int 0, .int 1, .int 0, .int (-1)]) := lk_int (t := 100) (zs := [0, 1, 0, -1]) (by decide) (by decide +kernel) (by decide) (by decide) (lk_sl 16 6 (by decide +kernel) hs)
theorem lk_c26 (hs : ∀ w ∈ flatC narrow_1, w.before a s = true) : lk_E a s 26 ∧ js_Cst (lk_G ci sl rc a s xs) s s.heap 26 (js_bs [48, 49, 50, 51, 52, 53, 54, 55, 56, 57, 48, 49, 50, 51, 52, 53, 54, 55, 56, 57, 48, 49, 50, 51, 52, 53, 54, 55, 56, 57, 48, 49, 50, 51, 52, 53, 54, 55, 56, 57, 48, 49, 50, 51, 52, 53, 54, 55, 56, 57, 48, 49, 50, 51, 52, 53, 54, 55, 56, 57, 48, 49, 50, 51, 52, 53, 54, 55, 56, 57, 48, 49, 50, 51, 52, 53, 54, 55, 56, 57, 48, 49, 50, 51, 52, 53, 54, 55, 56, 57, 48, 49, 50, 51, 52, 53, 54, 55, 56, 57]) := lk_int (t := 104) (zs := [48, 49, 50, 51, 52, 53, 54, 55, 56, 57, 48, 49, 50, 51, 52, 53, 54, 55, 56, 57, 48, 49, 50, 51, 52, 53, 54, 55, 56, 57, 48, 49, 50, 51, 52, 53, 54, 55, 56, 57, 48, 49, 50, 51, 52, 53, 54, 55, 56, 57, 48, 49, 50, 51, 52, 53, 54, 55, 56, 57, 48, 49, 50, 51, 52, 53, 54, 55, 56, 57, 48, 49, 50, 51, 52, 53, 54, 55, 56, 57, 48, 49, 50, 51, 52, 53, 54, 55, 56, 57, 48, 49, 50, 51, 52, 53, 54, 55, 56, 57]) (by decide) (by decide +kernel) (by decide) (by decide) (lk_sl 28 102 (by decide +kernel) hs)
theorem lk_c27 (hs : ∀ w ∈ flatC narrow_1, w.before a s = true) : lk_E a s 27 ∧ js_Cst (lk_G ci sl rc a s xs) s s.heap 27 (js_bs [48, 48, 48, 48, 48, 48, 48, 48, 48, 48, 49, 49, 49, 49, 49, 49, 49, 49, 49, 49, 50, 50, 50, 50, 50, 50, 50, 50, 50, 50, 51, 51, 51, 51, 51, 51, 51, 51, 51, 51, 52, 52, 52, 52, 52, 52, 52, 52, 52, 52, 53, 53, 53, 53, 53, 53, 53, 53, 53, 53, 54, 54, 54, 54, 54, 54, 54, 54, 54, 54, 55, 55, 55, 55, 55, 55, 55, 55, 55, 55, 56, 56, 56, 56, 56, 56, 56, 56, 56, 56, 57, 57, 57, 57, 57, 57, 57, 57, 57, 57]) := lk_int (t := 104) (zs := [48, 48, 48, 48, 48, 48, 48, 48, 48, 48, 49, 49, 49, 49, 49, 49, 49, 49, 49, 49, 50, 50, 50, 50, 50, 50, 50, 50, 50, 50, 51, 51, 51, 51, 51, 51, 51, 51, 51, 51, 52, 52, 52, 52, 52, 52, 52, 52, 52, 52, 53, 53, 53, 53, 53, 53, 53, 53, 53, 53, 54, 54, 54, 54, 54, 54, 54, 54, 54, 54, 55, 55, 55, 55, 55, 55, 55, 55, 55, 55, 56, 56, 56, 56, 56, 56, 56, 56, 56, 56, 57, 57, 57, 57, 57, 57, 57, 57, 57, 57]) (by decide) (by decide +kernel) (by decide) (by decide) (lk_sl 131 102 (by decide +kernel) hs)
theorem lk_c51 (hs : ∀ w ∈ flatC narrow_1, w.before a s = true) : lk_E a s 51 ∧ js_Cst (lk_G ci sl rc a s xs) s s.heap 51 (js_bs [110, 101, 119, 32]) := lk_int (t := 104) (zs := [110, 101, 119, 32]) (by decide) (by decide +kernel) (by decide) (by decide) (lk_sl 1094 6 (by decide +kernel) hs)
theorem lk_c52 (hs : ∀ w ∈ flatC narrow_1, w.before a s = true) : lk_E a s 52 ∧ js_Cst (lk_G ci sl rc a s xs) s s.heap 52 (js_bs [99, 104, 104, 104, 104]) := lk_int (t := 104) (zs := [99, 104, 104, 104, 104]) (by decide) (by decide +kernel) (by decide) (by decide) (lk_sl 1102 7 (by decide +kernel) hs)
theorem lk_c53 (hs : ∀ w ∈ flatC narrow_1, w.before a s = true) : lk_E a s 53 ∧ js_Cst (lk_G ci sl rc a s xs) s s.heap 53 (js_bs [112, 117, 116, 32]) := lk_int (t := 104) (zs := [112, 117, 116, 32]) (by decide) (by decide +kernel) (by decide) (by decide) (lk_sl 1111 6 (by decide +kernel) hs)
theorem lk_c54 (hs : ∀ w ∈ flatC narrow_1, w.before a s = true) : lk_E a s 54 ∧ js_Cst (lk_G ci sl rc a s xs) s s.heap 54 (js_bs [110, 64, 100, 100]) := lk_int (t := 104) (zs := [110, 64, 100, 100]) (by decide) (by decide +kernel) (by decide) (by decide) (lk_sl 1119 6 (by decide +kernel) hs)
theorem lk_c55 (hs : ∀ w ∈ flatC narrow_1, w.before a s = true) : lk_E a s 55 ∧ js_Cst (lk_G ci sl rc a s xs) s s.heap 55 (js_bs [116, 97, 107, 101, 32]) := lk_int (t := 104) (zs := [116, 97, 107, 101, 32]) (by decide) (by decide +kernel) (by decide) (by decide) (lk_sl 1127 7 (by decide +kernel) hs)
theorem lk_c56 (hs : ∀ w ∈ flatC narrow_1, w.before a s = true) : lk_E a s 56 ∧ js_Cst (lk_G ci sl rc a s xs) s s.heap 56 (js_bs [110]) := lk_int (t := 104) (zs := [110]) (by decide) (by decide +kernel) (by decide) (by decide) (lk_sl 1136 3 (by decide +kernel) hs)
theorem lk_c57 (hs : ∀ w ∈ flatC narrow_1, w.before a s = true) : lk_E a s 57 ∧ js_Cst (lk_G ci sl rc a s xs) s s.heap 57 (js_bs [116, 117, 114, 110, 32]) := lk_int (t := 104) (zs := [116, 117, 114, 110, 32]) (by decide) (by decide +kernel) (by decide) (by decide) (lk_sl 1141 7 (by decide +kernel) hs)
theorem lk_c58 (hs : ∀ w ∈ flatC narrow_1, w.before a s = true) : lk_E a s 58 ∧ js_Cst (lk_G ci sl rc a s xs) s s.heap 58 (js_bs [110, 42, 100]) := lk_int (t := 104) (zs := [110, 42, 100]) (by decide) (by decide +kernel) (by decide) (by decide) (lk_sl 1150 5 (by decide +kernel) hs)
theorem lk_c59 (hs : ∀ w ∈ flatC narrow_1, w.before a s = true) : lk_E a s 59 ∧ js_Cst (lk_G ci sl rc a s xs) s s.heap 59 (js_bs [115, 119, 97, 112, 32]) := lk_int (t := 104) (zs := [115, 119, 97, 112, 32]) (by decide) (by decide +kernel) (by decide) (by decide) (lk_sl 1157 7 (by decide +kernel) hs)
theorem lk_c60 (hs : ∀ w ∈ flatC narrow_1, w.before a s = true) : lk_E a s 60 ∧ js_Cst (lk_G ci sl rc a s xs) s s.heap 60 (js_bs [110, 38, 110]) := lk_int (t := 104) (zs := [110, 38, 110]) (by decide) (by decide +kernel) (by decide) (by decide) (lk_sl 1166 5 (by decide +kernel) hs)
theorem lk_c61 (hs : ∀ w ∈ flatC narrow_1, w.before a s = true) : lk_E a s 61 ∧ js_Cst (lk_G ci sl rc a s xs) s s.heap 61 (js_bs [102, 105, 108, 108]) := lk_int (t := 104) (zs := [102, 105, 108, 108]) (by decide) (by decide +kernel) (by decide) (by decide) (lk_sl 1081 6 (by decide +kernel) hs)
theorem lk_c62 (hs : ∀ w ∈ flatC narrow_1, w.before a s = true) : lk_E a s 62 ∧ js_Cst (lk_G ci sl rc a s xs) s s.heap 62 (js_bs []) := lk_int (t := 104) (zs := []) (by decide) (by decide +kernel) (by decide) (by decide) (lk_sl 1089 2 (by decide +kernel) hs)
theorem lk_c63 (hs : ∀ w ∈ flatC narrow_1, w.before a s = true) : lk_E a s 63 ∧ js_Cst (lk_G ci sl rc a s xs) s s.heap 63 (js_bs [100, 114, 111, 112, 32]) := lk_int (t := 104) (zs := [100, 114, 111, 112, 32]) (by decide) (by decide +kernel) (by decide) (by decide) (lk_sl 1173 7 (by decide +kernel) hs)
theorem lk_c64 (hs : ∀ w ∈ flatC narrow_1, w.before a s = true) : lk_E a s 64 ∧ js_Cst (lk_G ci sl rc a s xs) s s.heap 64 (js_bs [110]) := lk_int (t := 104) (zs := [110]) (by decide) (by decide +kernel) (by decide) (by decide) (lk_sl 1136 3 (by decide +kernel) hs)
theorem lk_c70 (hs : ∀ w ∈ flatC narrow_1, w.before a s = true) : lk_E a s 70 ∧ js_Cst (lk_G ci sl rc a s xs) s s.heap 70 (js_bs []) := lk_int (t := 104) (zs := []) (by decide) (by decide +kernel) (by decide) (by decide) (lk_sl 865 2 (by decide +kernel) hs)
theorem lk_c71 (hs : ∀ w ∈ flatC narrow_1, w.before a s = true) : lk_E a s 71 ∧ js_Cst (lk_G ci sl rc a s xs) s s.heap 71 (js_bs [48, 49, 50, 51, 52, 53, 54, 55, 56, 57, 97, 98, 99, 100, 101, 102]) := lk_int (t := 104) (zs := [48, 49, 50, 51, 52, 53, 54, 55, 56, 57, 97, 98, 99, 100, 101, 102]) (by decide) (by decide +kernel) (by decide) (by decide) (lk_sl 911 18 (by decide +kernel) hs)
theorem lk_c72 (hs : ∀ w ∈ flatC narrow_1, w.before a s = true) : lk_E a s 72 ∧ js_Cst (lk_G ci sl rc a s xs) s s.heap 72 (js_bs [64]) := lk_int (t := 104) (zs := [64]) (by decide) (by decide +kernel) (by decide) (by decide) (lk_sl 931 3 (by decide +kernel) hs)
theorem lk_c73 (hs : ∀ w ∈ flatC narrow_1, w.before a s = true) : lk_E a s 73 ∧ js_Cst (lk_G ci sl rc a s xs) s s.heap 73 (js_bs [110, 101, 119, 32, 97, 51, 99, 53, 97, 59, 116, 117, 114, 110, 32]) := lk_int (t := 104) (zs := [110, 101, 119, 32, 97, 51, 99, 53, 97, 59, 116, 117, 114, 110, 32]) (by decide) (by decide +kernel) (by decide) (by decide) (lk_sl 936 17 (by decide +kernel) hs)
theorem lk_c74 (hs : ∀ w ∈ flatC narrow_1, w.before a s = true) : lk_E a s 74 ∧ js_Cst (lk_G ci sl rc a s xs) s s.heap 74 (js_bs [42]) := lk_int (t := 104) (zs := [42]) (by decide) (by decide +kernel) (by decide) (by decide) (lk_sl 955 3 (by decide +kernel) hs)
theorem lk_c75 (hs : ∀ w ∈ flatC narrow_1, w.before a s = true) : lk_E a s 75 ∧ js_Cst (lk_G ci sl rc a s xs) s s.heap 75 (js_bs [59, 112, 117, 116, 32]) := lk_int (t := 104) (zs := [59, 112, 117, 116, 32]) (by decide) (by decide +kernel) (by decide) (by decide) (lk_sl 960 7 (by decide +kernel) hs)
theorem lk_c76 (hs : ∀ w ∈ flatC narrow_1, w.before a s = true) : lk_E a s 76 ∧ js_Cst (lk_G ci sl rc a s xs) s s.heap 76 (js_bs [59, 102, 105, 108, 108]) := lk_int (t := 104) (zs := [59, 102, 105, 108, 108]) (by decide) (by decide +kernel) (by decide) (by decide) (lk_sl 969 7 (by decide +kernel) hs)
theorem lk_c11 (hs : ∀ w ∈ flatC narrow_1, w.before a s = true) : lk_E a s 11 ∧ js_Cst (lk_G ci sl rc a s xs) s s.heap 11 (20, [.ref 51, .int 0]) := lk_str (by decide) (by decide) rfl (lk_at 1092 (by decide +kernel) hs) (lk_at 1093 (by decide +kernel) hs) (lk_c51 (ci := ci) (sl := sl) (rc := rc) (xs := xs) hs).1
theorem lk_c12 (hs : ∀ w ∈ flatC narrow_1, w.before a s = true) : lk_E a s 12 ∧ js_Cst (lk_G ci sl rc a s xs) s s.heap 12 (20, [.ref 52, .int 0]) := lk_str (by decide) (by decide) rfl (lk_at 1100 (by decide +kernel) hs) (lk_at 1101 (by decide +kernel) hs) (lk_c52 (ci := ci) (sl := sl) (rc := rc) (xs := xs) hs).1
theorem lk_c13 (hs : ∀ w ∈ flatC narrow_1, w.before a s = true) : lk_E a s 13 ∧ js_Cst (lk_G ci sl rc a s xs) s s.heap 13 (20, [.ref 53, .int 0]) := lk_str (by decide) (by decide) rfl (lk_at 1109 (by decide +kernel) hs) (lk_at 1110 (by decide +kernel) hs) (lk_c53 (ci := ci) (sl := sl) (rc := rc) (xs := xs) hs).1
theorem lk_c14 (hs : ∀ w ∈ flatC narrow_1, w.before a s = true) : lk_E a s 14 ∧ js_Cst (lk_G ci sl rc a s xs) s s.heap 14 (20, [.ref 54, .int 0]) := lk_str (by decide) (by decide) rfl (lk_at 1117 (by decide +kernel) hs) (lk_at 1118 (by decide +kernel) hs) (lk_c54 (ci := ci) (sl := sl) (rc := rc) (xs := xs) hs).1
theorem lk_c15 (hs : ∀ w ∈ flatC narrow_1, w.before a s = true) : lk_E a s 15 ∧ js_Cst (lk_G ci sl rc a s xs) s s.heap 15 (20, [.ref 55, .int 0]) := lk_str (by decide) (by decide) rfl (lk_at 1125 (by decide +kernel) hs) (lk_at 1126 (by decide +kernel) hs) (lk_c55 (ci := ci) (sl := sl) (rc := rc) (xs := xs) hs).1
theorem lk_c16 (hs : ∀ w ∈ flatC narrow_1, w.before a s = true) : lk_E a s 16 ∧ js_Cst (lk_G ci sl rc a s xs) s s.heap 16 (20, [.ref 56, .int 0]) := lk_str (by decide) (by decide) rfl (lk_at 1134 (by decide +kernel) hs) (lk_at 1135 (by decide +kernel) hs) (lk_c56 (ci := ci) (sl := sl) (rc := rc) (xs := xs) hs).1
theorem lk_c17 (hs : ∀ w ∈ flatC narrow_1, w.before a s = true) : lk_E a s 17 ∧ js_Cst (lk_G ci sl rc a s xs) s s.heap 17 (20, [.ref 57, .int 0]) := lk_str (by decide) (by decide) rfl (lk_at 1139 (by decide +kernel) hs) (lk_at 1140 (by decide +kernel) hs) (lk_c57 (ci := ci) (sl := sl) (rc := rc) (xs := xs) hs).1
theorem lk_c18 (hs : ∀ w ∈ flatC narrow_1, w.before a s = true) : lk_E a s 18 ∧ js_Cst (lk_G ci sl rc a s xs) s s.heap 18 (20, [.ref 58, .int 0]) := lk_str (by decide) (by decide) rfl (lk_at 1148 (by decide +kernel) hs) (lk_at 1149 (by decide +kernel) hs) (lk_c58 (ci := ci) (sl := sl) (rc := rc) (xs := xs) hs).1
theorem lk_c19 (hs : ∀ w ∈ flatC narrow_1, w.before a s = true) : lk_E a s 19 ∧ js_Cst (lk_G ci sl rc a s xs) s s.heap 19 (20, [.ref 59, .int 0]) := lk_str (by decide) (by decide) rfl (lk_at 1155 (by decide +kernel) hs) (lk_at 1156 (by decide +kernel) hs) (lk_c59 (ci := ci) (sl := sl) (rc := rc) (xs := xs) hs).1
theorem lk_c20 (hs : ∀ w ∈ flatC narrow_1, w.before a s = true) : lk_E a s 20 ∧ js_Cst (lk_G ci sl rc a s xs) s s.heap 20 (20, [.ref 60, .int 0]) := lk_str (by decide) (by decide) rfl (lk_at 1164 (by decide +kernel) hs) (lk_at 1165 (by decide +kernel) hs) (lk_c60 (ci := ci) (sl := sl) (rc := rc) (xs := xs) hs).1
theorem lk_c21 (hs : ∀ w ∈ flatC narrow_1, w.before a s = true) : lk_E a s 21 ∧ js_Cst (lk_G ci sl rc a s xs) s s.heap 21 (20, [.ref 61, .int 0]) := lk_str (by decide) (by decide) rfl (lk_at 1079 (by decide +kernel) hs) (lk_at 1080 (by decide +kernel) hs) (lk_c61 (ci := ci) (sl := sl) (rc := rc) (xs := xs) hs).1
theorem lk_c22 (hs : ∀ w ∈ flatC narrow_1, w.before a s = true) : lk_E a s 22 ∧ js_Cst (lk_G ci sl rc a s xs) s s.heap 22 (20, [.ref 62, .int 0]) := lk_str (by decide) (by decide) rfl (lk_at 1087 (by decide +kernel) hs) (lk_at 1088 (by decide +kernel) hs) (lk_c62 (ci := ci) (sl := sl) (rc := rc) (xs := xs) hs).1
theorem lk_c23 (hs : ∀ w ∈ flatC narrow_1, w.before a s = true) : lk_E a s 23 ∧ js_Cst (lk_G ci sl rc a s xs) s s.heap 23 (20, [.ref 63, .int 0]) := lk_str (by decide) (by decide) rfl (lk_at 1171 (by decide +kernel) hs) (lk_at 1172 (by decide +kernel) hs) (lk_c63 (ci := ci) (sl := sl) (rc := rc) (xs := xs) hs).1
theorem lk_c24 (hs : ∀ w ∈ flatC narrow_1, w.before a s = true) : lk_E a s 24 ∧ js_Cst (lk_G ci sl rc a s xs) s s.heap 24 (20, [.ref 64, .int 0]) := lk_str (by decide) (by decide) rfl (lk_at 1134 (by decide +kernel) hs) (lk_at 1135 (by decide +kernel) hs) (lk_c64 (ci := ci) (sl := sl) (rc := rc) (xs := xs) hs).1
theorem lk_c30 (hs : ∀ w ∈ flatC narrow_1, w.before a s = true) : lk_E a s 30 ∧ js_Cst (lk_G ci sl rc a s xs) s s.heap 30 (20, [.ref 70, .int 0]) := lk_str (by decide) (by decide) rfl (lk_at 863 (by decide +kernel) hs) (lk_at 864 (by decide +kernel) hs) (lk_c70 (ci := ci) (sl := sl) (rc := rc) (xs := xs) hs).1
theorem lk_c31 (hs : ∀ w ∈ flatC narrow_1, w.before a s = true) : lk_E a s 31 ∧ js_Cst (lk_G ci sl rc a s xs) s s.heap 31 (20, [.ref 71, .int 0]) := lk_str (by decide) (by decide) rfl (lk_at 909 (by decide +kernel) hs) (lk_at 910 (by decide +kernel) hs) (lk_c71 (ci := ci) (sl := sl) (rc := rc) (xs := xs) hs).1
theorem lk_c32 (hs : ∀ w ∈ flatC narrow_1, w.before a s = true) : lk_E a s 32 ∧ js_Cst (lk_G ci sl rc a s xs) s s.heap 32 (20, [.ref 72, .int 0]) := lk_str (by decide) (by decide) rfl (lk_at 929 (by decide +kernel) hs) (lk_at 930 (by decide +kernel) hs) (lk_c72 (ci := ci) (sl := sl) (rc := rc) (xs := xs) hs).1
theorem lk_c33 (hs : ∀ w ∈ flatC narrow_1, w.before a s = true) : lk_E a s 33 ∧ js_Cst (lk_G ci sl rc a s xs) s s.heap 33 (20, [.ref 73, .int 0]) := lk_str (by decide) (by decide) rfl (lk_at 934 (by decide +kernel) hs) (lk_at 935 (by decide +kernel) hs) (lk_c73 (ci := ci) (sl := sl) (rc := rc) (xs := xs) hs).1
theorem lk_c34 (hs : ∀ w ∈ flatC narrow_1, w.before a s = true) : lk_E a s 34 ∧ js_Cst (lk_G ci sl rc a s xs) s s.heap 34 (20, [.ref 74, .int 0]) := lk_str (by decide) (by decide) rfl (lk_at 953 (by decide +kernel) hs) (lk_at 954 (by decide +kernel) hs) (lk_c74 (ci := ci) (sl := sl) (rc := rc) (xs := xs) hs).1
theorem lk_c35 (hs : ∀ w ∈ flatC narrow_1, w.before a s = true) : lk_E a s 35 ∧ js_Cst (lk_G ci sl rc a s xs) s s.heap 35 (20, [.ref 75, .int 0]) := lk_str (by decide) (by decide) rfl (lk_at 958 (by decide +kernel) hs) (lk_at 959 (by decide +kernel) hs) (lk_c75 (ci := ci) (sl := sl) (rc := rc) (xs := xs) hs).1
theorem lk_c36 (hs : ∀ w ∈ flatC narrow_1, w.before a s = true) : lk_E a s 36 ∧ js_Cst (lk_G ci sl rc a s xs) s s.heap 36 (20, [.ref 76, .int 0]) := lk_str (by decide) (by decide) rfl (lk_at 967 (by decide +kernel) hs) (lk_at 968 (by decide +kernel) hs) (lk_c76 (ci := ci) (sl := sl) (rc := rc) (xs := xs) hs).1
theorem lk_c4 (hs : ∀ w ∈ flatC narrow_1, w.before a s = true) : lk_E a s 4 ∧ js_Cst (lk_G ci sl rc a s xs) s s.heap 4 (21, [.int 0, .ref 11, .ref 12]) := lk_kw (by decide) (by decide) (by decide) (lk_at 255 (by decide +kernel) hs) (lk_at 256 (by decide +kernel) hs) (lk_at 257 (by decide +kernel) hs) (lk_at 258 (by decide +kernel) hs) (lk_c11 (ci := ci) (sl := sl) (rc := rc) (xs := xs) hs).1 (lk_c12 (ci := ci) (sl := sl) (rc := rc) (xs := xs) hs).1
theorem lk_c5 (hs : ∀ w ∈ flatC narrow_1, w.before a s = true) : lk_E a s 5 ∧ js_Cst (lk_G ci sl rc a s xs) s s.heap 5 (21, [.int 1, .ref 13, .ref 14]) := lk_kw (by decide) (by decide) (by decide) (lk_at 260 (by decide +kernel) hs) (lk_at 261 (by decide +kernel) hs) (lk_at 262 (by decide +kernel) hs) (lk_at 263 (by decide +kernel) hs) (lk_c13 (ci := ci) (sl := sl) (rc := rc) (xs := xs) hs).1 (lk_c14 (ci := ci) (sl := sl) (rc := rc) (xs := xs) hs).1
theorem lk_c6 (hs : ∀ w ∈ flatC narrow_1, w.before a s = true) : lk_E a s 6 ∧ js_Cst (lk_G ci sl rc a s xs) s s.heap 6 (21, [.int 2, .ref 15, .ref 16]) := lk_kw (by decide) (by decide) (by decide) (lk_at 266 (by decide +kernel) hs) (lk_at 267 (by decide +kernel) hs) (lk_at 268 (by decide +kernel) hs) (lk_at 269 (by decide +kernel) hs) (lk_c15 (ci := ci) (sl := sl) (rc := rc) (xs := xs) hs).1 (lk_c16 (ci := ci) (sl := sl) (rc := rc) (xs := xs) hs).1
theorem lk_c7 (hs : ∀ w ∈ flatC narrow_1, w.before a s = true) : lk_E a s 7 ∧ js_Cst (lk_G ci sl rc a s xs) s s.heap 7 (21, [.int 3, .ref 17, .ref 18]) := lk_kw (by decide) (by decide) (by decide) (lk_at 273 (by decide +kernel) hs) (lk_at 274 (by decide +kernel) hs) (lk_at 275 (by decide +kernel) hs) (lk_at 276 (by decide +kernel) hs) (lk_c17 (ci := ci) (sl := sl) (rc := rc) (xs := xs) hs).1 (lk_c18 (ci := ci) (sl := sl) (rc := rc) (xs := xs) hs).1
theorem lk_c8 (hs : ∀ w ∈ flatC narrow_1, w.before a s = true) : lk_E a s 8 ∧ js_Cst (lk_G ci sl rc a s xs) s s.heap 8 (21, [.int 4, .ref 19, .ref 20]) := lk_kw (by decide) (by decide) (by decide) (lk_at 281 (by decide +kernel) hs) (lk_at 282 (by decide +kernel) hs) (lk_at 283 (by decide +kernel) hs) (lk_at 284 (by decide +kernel) hs) (lk_c19 (ci := ci) (sl := sl) (rc := rc) (xs := xs) hs).1 (lk_c20 (ci := ci) (sl := sl) (rc := rc) (xs := xs) hs).1
theorem lk_c9 (hs : ∀ w ∈ flatC narrow_1, w.before a s = true) : lk_E a s 9 ∧ js_Cst (lk_G ci sl rc a s xs) s s.heap 9 (21, [.int 5, .ref 21, .ref 22]) := lk_kw (by decide) (by decide) (by decide) (lk_at 2 (by decide +kernel) hs) (lk_at 3 (by decide +kernel) hs) (lk_at 4 (by decide +kernel) hs) (lk_at 5 (by decide +kernel) hs) (lk_c21 (ci := ci) (sl := sl) (rc := rc) (xs := xs) hs).1 (lk_c22 (ci := ci) (sl := sl) (rc := rc) (xs := xs) hs).1
theorem lk_c10 (hs : ∀ w ∈ flatC narrow_1, w.before a s = true) : lk_E a s 10 ∧ js_Cst (lk_G ci sl rc a s xs) s s.heap 10 (21, [.int 6, .ref 23, .ref 24]) := lk_kw (by decide) (by decide) (by decide) (lk_at 290 (by decide +kernel) hs) (lk_at 291 (by decide +kernel) hs) (lk_at 292 (by decide +kernel) hs) (lk_at 293 (by decide +kernel) hs) (lk_c23 (ci := ci) (sl := sl) (rc := rc) (xs := xs) hs).1 (lk_c24 (ci := ci) (sl := sl) (rc := rc) (xs := xs) hs).1
theorem lk_c3 (hs : ∀ w ∈ flatC narrow_1, w.before a s = true) : lk_E a s 3 ∧ js_Cst (lk_G ci sl rc a s xs) s s.heap 3 (113, [.ref 4, .ref 5, .ref 6, .ref 7, .ref 8, .ref 9, .ref 10]) := by
  have hel : ∀ j : Nat, j < 7 → (Term.elem (lk_tm 3) (.int (Int32.ofNat j))).eval a s none [] s = some (.ref (lk_ad a s (4 + j))) := by
    intro j hj
    match j, hj with
    | 0, _ => exact lk_eqr (u := lk_tm 4) (lk_at 238 (by decide +kernel) hs) (lk_c4 (ci := ci) (sl := sl) (rc := rc) (xs := xs) hs).1
    | 1, _ => exact lk_eqr (u := lk_tm 5) (lk_at 239 (by decide +kernel) hs) (lk_c5 (ci := ci) (sl := sl) (rc := rc) (xs := xs) hs).1
    | 2, _ => exact lk_eqr (u := lk_tm 6) (lk_at 240 (by decide +kernel) hs) (lk_c6 (ci := ci) (sl := sl) (rc := rc) (xs := xs) hs).1
    | 3, _ => exact lk_eqr (u := lk_tm 7) (lk_at 241 (by decide +kernel) hs) (lk_c7 (ci := ci) (sl := sl) (rc := rc) (xs := xs) hs).1
    | 4, _ => exact lk_eqr (u := lk_tm 8) (lk_at 242 (by decide +kernel) hs) (lk_c8 (ci := ci) (sl := sl) (rc := rc) (xs := xs) hs).1
    | 5, _ => exact lk_eqr (u := lk_tm 9) (lk_at 243 (by decide +kernel) hs) (lk_c9 (ci := ci) (sl := sl) (rc := rc) (xs := xs) hs).1
    | 6, _ => exact lk_eqr (u := lk_tm 10) (lk_at 244 (by decide +kernel) hs) (lk_c10 (ci := ci) (sl := sl) (rc := rc) (xs := xs) hs).1
  obtain ⟨x, hx, hT⟩ := va_Tof (tm := lk_tm 3) (ty := .object "MosaicCatalogue$Keyword") (N := 7) (A := js_A (lk_G ci sl rc a s xs)) (f := fun j => .ref (lk_ad a s (4 + j))) (by decide) (lk_at 235 (by decide +kernel) hs) (va_eqt (lk_at 236 (by decide +kernel) hs)) hel (fun _ h => lk_A h)
  have e := lk_Eof hx
  refine ⟨by rw [lk_E, e]; exact hx, Or.inl ⟨by decide, ?_⟩⟩
  have e2 : js_ad (lk_G ci sl rc a s xs) 3 = x := e
  rw [e2]
  obtain ⟨cell, c1, c2, c3, c4, c5, c6, c7⟩ := hT
  refine ⟨cell, c1, c2, c3, c4, c5, fun j hj => ?_, c7⟩
  rw [c6 j hj]
  match j, hj with
  | 0, _ => rfl
  | 1, _ => rfl
  | 2, _ => rfl
  | 3, _ => rfl
  | 4, _ => rfl
  | 5, _ => rfl
  | 6, _ => rfl
theorem lk_c199 {b : Nat} (hs : ∀ w ∈ flatC narrow_1, w.before a s = true) (e : a = #[.ref b]) (hX : va_X b xs.length (fun j => xs.getD j 0) s s.heap) (hL : xs.length < 2 ^ 31) : lk_E a s 199 ∧ js_Cst (lk_G ci sl rc a s xs) s s.heap 199 (100, xs.map .int) := by
  subst e
  have hx : (lk_tm 199).eval #[.ref b] s none [] s = some (.ref b) := rfl
  have e := lk_Eof hx
  refine ⟨by rw [lk_E, e]; exact hx, Or.inl ⟨(by decide : 100 ≤ (100 : Nat)), ?_⟩⟩
  have e2 : js_ad (lk_G ci sl rc #[.ref b] s xs) 199 = b := e
  obtain ⟨scr, c1, c2, c3, c4, c5⟩ := hX
  rw [e2]
  refine ⟨scr, c1, c2, c3, ?_, ?_, fun j hj => ?_, lk_A (Array.getElem?_eq_some_iff.mp c1).1⟩
  · show (xs.map Value.int).length ≤ _
    rw [List.length_map, c4]
    exact Nat.le_refl _
  · show _ = Int32.ofNat (xs.map Value.int).length
    rw [List.length_map, c4]
  · have hj : j < xs.length := by have hj : j < (xs.map Value.int).length := hj; rw [List.length_map] at hj; exact hj
    rw [c5 j hj]
    show _ = some (js_v (lk_G ci sl rc #[.ref b] s xs) ((xs.map Value.int).getD j .null))
    simp [hj, js_v]
theorem lk_cst {b : Nat} (hs : ∀ w ∈ flatC narrow_1, w.before a s = true) (e : a = #[.ref b]) (hX : va_X b xs.length (fun j => xs.getD j 0) s s.heap) (hL : xs.length < 2 ^ 31) : ∀ q o, jx_K0 xs q = some o → js_Cst (lk_G ci sl rc a s xs) s s.heap q o := by
  intro q o h
  unfold jx_K0 at h
  split at h
  · cases h; exact (lk_c0 hs).2
  · cases h; exact (lk_c1 hs).2
  · cases h; exact (lk_c2 hs).2
  · cases h; exact (lk_c3 hs).2
  · cases h; exact (lk_c4 hs).2
  · cases h; exact (lk_c5 hs).2
  · cases h; exact (lk_c6 hs).2
  · cases h; exact (lk_c7 hs).2
  · cases h; exact (lk_c8 hs).2
  · cases h; exact (lk_c9 hs).2
  · cases h; exact (lk_c10 hs).2
  · cases h; exact (lk_c11 hs).2
  · cases h; exact (lk_c12 hs).2
  · cases h; exact (lk_c13 hs).2
  · cases h; exact (lk_c14 hs).2
  · cases h; exact (lk_c15 hs).2
  · cases h; exact (lk_c16 hs).2
  · cases h; exact (lk_c17 hs).2
  · cases h; exact (lk_c18 hs).2
  · cases h; exact (lk_c19 hs).2
  · cases h; exact (lk_c20 hs).2
  · cases h; exact (lk_c21 hs).2
  · cases h; exact (lk_c22 hs).2
  · cases h; exact (lk_c23 hs).2
  · cases h; exact (lk_c24 hs).2
  · cases h; exact (lk_c26 hs).2
  · cases h; exact (lk_c27 hs).2
  · cases h; exact (lk_c30 hs).2
  · cases h; exact (lk_c31 hs).2
  · cases h; exact (lk_c32 hs).2
  · cases h; exact (lk_c33 hs).2
  · cases h; exact (lk_c34 hs).2
  · cases h; exact (lk_c35 hs).2
  · cases h; exact (lk_c36 hs).2
  · cases h; exact (lk_c51 hs).2
  · cases h; exact (lk_c52 hs).2
  · cases h; exact (lk_c53 hs).2
  · cases h; exact (lk_c54 hs).2
  · cases h; exact (lk_c55 hs).2
  · cases h; exact (lk_c56 hs).2
  · cases h; exact (lk_c57 hs).2
  · cases h; exact (lk_c58 hs).2
  · cases h; exact (lk_c59 hs).2
  · cases h; exact (lk_c60 hs).2
  · cases h; exact (lk_c61 hs).2
  · cases h; exact (lk_c62 hs).2
  · cases h; exact (lk_c63 hs).2
  · cases h; exact (lk_c64 hs).2
  · cases h; exact (lk_c70 hs).2
  · cases h; exact (lk_c71 hs).2
  · cases h; exact (lk_c72 hs).2
  · cases h; exact (lk_c73 hs).2
  · cases h; exact (lk_c74 hs).2
  · cases h; exact (lk_c75 hs).2
  · cases h; exact (lk_c76 hs).2
  · cases h; exact (lk_c199 hs e hX hL).2
  · cases h
end LK
