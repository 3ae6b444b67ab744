/-! What the real machine holds where my machine holds h. -/
section JS
/-- the real side: classes' numbers, places of their fields, rows' classes, where the constants lie, the heap's size at the law's entry, the script -/
abbrev js_G : Type := (Nat → ClassId) × (Nat → Nat → Nat) × (Nat → ClassId) × (Nat → Nat) × Nat × List Int32
def js_ad (G : js_G) (q : Nat) : Nat := if q < jx_nc then G.2.2.2.1 q else G.2.2.2.2.1 + (q - jx_nc)
def js_v (G : js_G) (v : Value) : Value := match v with | .ref a => .ref (js_ad G a) | v => v
def js_R (G : js_G) (v r : Value) : Prop := match v with | .retAddr _ => r.category = 1 | v => r = js_v G v
def js_RL (G : js_G) (a b : List Value) : Prop := match a, b with | [], [] => True | v :: a, r :: b => js_R G v r ∧ js_RL G a b | _, _ => False
def js_nj (v : Value) : Prop := ∀ n, v ≠ .retAddr n
/-- what may be written -/
def js_A (G : js_G) : Nat → Prop := fun r => G.2.2.2.2.1 ≤ r
def js_ty (t : Nat) : FieldType := match t with
  | 100 => .int | 101 => .char | 102 => .long | 103 => .double | 104 => .byte | 105 => .boolean
  | 110 => .object "MosaicCatalogue$Board" | 111 => .object "MosaicCatalogue$Fragment" | 112 => .object "MosaicCatalogue$Command" | _ => .object "MosaicCatalogue$Keyword"
def js_cf (t k : Nat) : String × String × String := match t, k with
  | 20, 0 => ("java/lang/String", "value", "[B")
  | 20, _ => ("java/lang/String", "coder", "B")
  | _, 0 => ("java/lang/Enum", "ordinal", "I")
  | _, 1 => ("MosaicCatalogue$Keyword", "word", "Ljava/lang/String;")
  | _, _ => ("MosaicCatalogue$Keyword", "form", "Ljava/lang/String;")
def js_X (G : js_G) (H : Heap) (q : Nat) (o : jx_Ob) : Prop :=
  (∃ r : vw_C, js_cl[o.1]? = some r ∧ o.2.length = r.2.2 ∧ t_OB (js_ad G q) (G.1 o.1) r.2.2 (G.2.1 o.1) H (vp_V (o.2.map (js_v G)))) ∨
  (o.1 ∈ [100, 101, 102, 104, 105, 110, 111, 112] ∧ H[js_ad G q]? = some { cls := G.2.2.1 o.1, slots := (o.2.map (js_v G)).toArray, vm := .none } ∧ (o.1 = 104 → ∀ v, v ∈ o.2 → fits .byte v = true))
def js_cn (t : Nat) : String := match t with | 20 => "java/lang/String" | _ => "MosaicCatalogue$Keyword"
/-- a constant at its place -/
def js_Cst (G : js_G) (U : State) (H : Heap) (q : Nat) (o : jx_Ob) : Prop :=
  (100 ≤ o.1 ∧ va_T (js_ty o.1) (js_ad G q) o.2.length (fun j => js_v G (o.2.getD j .null)) (js_A G) U H) ∨
  (o.1 < 100 ∧ 20 ≤ o.1 ∧ va_O (js_cn o.1) (js_ad G q) (js_A G) U H ∧ ∀ k v, o.2[k]? = some v → va_OF (js_cf o.1 k).1 (js_cf o.1 k).2.1 (js_cf o.1 k).2.2 (js_v G v) (js_ad G q) (js_A G) U H)
/-- the heap, without a method's frame -/
def js_H (G : js_G) (H : Heap) (h : jx_H) : Prop :=
  (∀ q o, jx_nc ≤ q → h.1 q = some o → js_X G H q o ∧ q < h.2.1) ∧ (∀ q, q < jx_nc → h.1 q = jx_K0 G.2.2.2.2.2 q) ∧ jx_nc ≤ h.2.1 ∧ h.2.1 ≤ h.2.2.1 + jx_nc ∧ (h.2.1 = h.2.2.1 + jx_nc → H.size = G.2.2.2.2.1 + h.2.2.1) ∧ G.2.2.2.2.1 ≤ H.size
def js_S (G : js_G) (s : State) (H : Heap) (locs : List Loc) (h : jx_H) : Prop := js_H G H h ∧ va_S (js_A G) s.heap H locs
def js_L (G : js_G) (n : Nat) (ls : List Value) (rls : Array Slot) : Prop := rls.size = n ∧ lv_wf rls ∧ ∀ (k : Nat) (v : Value), ls[k]? = some v → js_nj v → rls[k]? = some (.val (js_v G v))
/-- words that are kept, but not by the tables' own check -/
def js_nw (w : Jvm.Cond) : Bool := match w with | .fieldLinkNest .. => true | .methodLinkNest .. => true | .castable .. => true | .declares .. => true | .arrayOver (.object _) => true | _ => false
/-- private methods of the builder's class above: a builder's call finds them -/
def js_xy : List MethodName := [⟨"java/lang/AbstractStringBuilder", "ensureCapacityInternal", "(I)V"⟩, ⟨"java/lang/AbstractStringBuilder", "newCapacity", "(I)I"⟩, ⟨"java/lang/AbstractStringBuilder", "putStringAt", "(ILjava/lang/String;)V"⟩, ⟨"java/lang/AbstractStringBuilder", "inflateIfNeededFor", "(Ljava/lang/String;)V"⟩]
def js_xs : List Jvm.Cond := js_xy.map (fun y => .selects "java/lang/StringBuilder" y y)
def js_ws : List Jvm.Cond := (lw_tbl ++ js_xs).filter goodWord
theorem js_ws_m {w : Jvm.Cond} (h : w ∈ lw_tbl) (hg : goodWord w = true) : w ∈ js_ws := List.mem_filter.mpr ⟨List.mem_append_left _ h, hg⟩
theorem js_ws_x {w : Jvm.Cond} (h : w ∈ js_xs) (hg : goodWord w = true) : w ∈ js_ws := List.mem_filter.mpr ⟨List.mem_append_right _ h, hg⟩
abbrev js_at : List Nat := [100, 101, 102, 104, 105, 110, 111, 112]
/-- statics that are read: their values -/
def js_zl : List (String × String × String × Value) := [("MosaicCatalogue$1", "$SwitchMap$MosaicCatalogue$Keyword", "[I", .ref 0), ("MosaicCatalogue", "ROW_STEPS", "[I", .ref 1), ("MosaicCatalogue", "COLUMN_STEPS", "[I", .ref 2), ("MosaicCatalogue", "KEYWORDS", "[LMosaicCatalogue$Keyword;", .ref 3), ("MosaicCatalogue$Keyword", "FILL", "LMosaicCatalogue$Keyword;", .ref 9), ("java/lang/Integer", "DigitOnes", "[B", .ref 26), ("java/lang/Integer", "DigitTens", "[B", .ref 27), ("java/lang/String", "COMPACT_STRINGS", "Z", .int 1)]
/-- strings that a method loads as values -/
def js_sl : List (String × Nat × String × Nat) := [("MosaicCatalogueLaw", 354, "", 30), ("MosaicCatalogueLaw", 376, "0123456789abcdef", 31), ("MosaicCatalogueLaw", 381, "@", 32), ("MosaicCatalogueLaw", 406, "new a3c5a;turn ", 33), ("MosaicCatalogueLaw", 408, "*", 34), ("MosaicCatalogueLaw", 410, ";put ", 35), ("MosaicCatalogueLaw", 412, ";fill", 36)]
/-- .. and as an exception's text -/
def js_xl : List (Nat × String) := [(86, "no such position in the tray"), (172, "the cell is empty"), (185, "a colour is from a to f"), (229, "a turn is from 0 to 3"), (266, "no fragment is placed"), (270, "there are no neighbouring fragments"), (300, "no such character in the output"), (307, "the input buffer is full"), (323, "the text is malformed"), (345, "a command failed"), (353, "there is no change to undo"), (371, "no such fragment"), (373, "rows and columns are from 0 to 7"), (375, "an argument is not allowed"), (377, "the fragments do not allow it"), (379, "the fragment is in the tray"), (381, "the cell is not a gap"), (387, "the tray has no such guess"), (389, "a side is from 0 to 3"), (391, "the fragment is placed")]
/-- what a method may take as given of its start, beside its words -/
def js_Ev (G : js_G) (U : State) (H : Heap) : Prop :=
  (∀ w, w ∈ lw_tbl → js_nw w = true → va_Nw w U) ∧ va_K (G.1, G.2.1) js_cl [] U ∧ (∀ t, t ∈ js_at → ArrOfT U (G.2.2.1 t) (js_ty t) ∧ va_RA U (G.2.2.1 t) (js_ty t)) ∧
  (∀ q o, q < jx_nc → jx_K0 G.2.2.2.2.2 q = some o → js_Cst G U H q o) ∧
  (∀ z, z ∈ js_zl → va_Z z.1 z.2.1 z.2.2.1 (js_v G z.2.2.2) (js_A G) U H) ∧ (∀ z, z ∈ js_sl → vk_R z.1 z.2.1 z.2.2.1 (js_ad G z.2.2.2) U) ∧ (∀ z, z ∈ js_xl → ∃ sa, vk_R "MosaicCatalogue" z.1 z.2 sa U) ∧
  va_Zq "jdk/internal/util/Preconditions" "SIOOBE_FORMATTER" "Ljava/util/function/BiFunction;" (js_A G) U H ∧ vx_Zq Bundle.tN "UNASSIGNED_STACK" Bundle.steD (js_A G) U H ∧ vx_Zq Bundle.tN "SUPPRESSED_SENTINEL" Bundle.listD (js_A G) U H
theorem js_Ev.pass {G : js_G} {s U : State} {H : Heap} {locs : List Loc} (h : js_Ev G s s.heap) (hS : va_S (js_A G) s.heap H locs) (hW : s.WarmedH U.vm) : js_Ev G U H := by
  obtain ⟨h1, h2, h3, h4, h5, h6, h7, h8, h9, h10⟩ := h
  have hq : ∀ a : Nat, a < s.heap.size → ¬ js_A G a → H[a]? = s.heap[a]? := hS.2.1
  refine ⟨fun w hw hn => ?_, va_K.moved hW.alike h2, fun t ht => ⟨arrOfT_moved hW.alike (h3 t ht).1, (h3 t ht).2.moved hW.alike⟩, fun q o hq1 ho => ?_, fun z hz => va_Z.moved hW.alike ((h5 z hz).kept hq), fun z hz => vk_R.warm hW (h6 z hz), fun z hz => ?_, va_Zq.moved hW.alike (h8.kept hq), vx_Zq.moved hW.alike (h9.kept hq), vx_Zq.moved hW.alike (h10.kept hq)⟩
  · have hz := h1 w hw hn
    cases w with
    | arrayOver ty => cases ty <;> first | exact va_AO.moved hW.alike hz | cases hn
    | _ => first | exact va_Nw.warmF hW hz | exact va_Nw.warmM hW hz | exact va_Nw.warmC hW hz | exact va_Nw.warmD hW hz | cases hn
  · rcases h4 q o hq1 ho with ⟨a, b⟩ | ⟨a, a2, a3, b⟩
    · exact Or.inl ⟨a, va_T.moved hW.alike (b.kept hq)⟩
    · exact Or.inr ⟨a, a2, va_O.moved hW.alike (a3.kept hq), fun k v hv => va_OF.moved hW.alike ((b k v hv).kept hq)⟩
  · obtain ⟨sa, h⟩ := h7 z hz
    exact ⟨sa, vk_R.warm hW h⟩
/-- all that stands while a method runs -/
def js_Cx (G : js_G) (m : Nat) (p : Program) (l : Launch) (s : State) (mth : MethodId) (args : Array Value) (meth : Method) (c : Code) : Prop :=
  p.tables.exec = Jvm.exec ∧ c.code = js_b m ∧ c.maxLocals = jx_M m ∧ s.vm.findClass (js_y m).cls = some mth.cls ∧ (∀ w ∈ js_ws, w.before args s = true) ∧ meth.locks = false ∧ js_Ev G s s.heap ∧ G.2.2.2.2.1 ≤ s.heap.size
theorem js_ws_of {w : Jvm.Cond} (i : Nat) (h : lw_tbl[i]? = some w) (hg : goodWord w = true) : w ∈ js_ws := js_ws_m (List.mem_of_getElem? h) hg
/-- an instruction of method m at pc does on the real machine what op does on mine -/
def js_St (m pc : Nat) (op : jx_Op) : Prop :=
  ∀ (p : Program) (l : Launch) (e : Env) (R : Room) (s : State) (mth : MethodId) (args : Array Value) (below : List Frame) (meth : Method) (c : Code) (Q : State → Prop) (G : js_G) (H : Heap) (locs : List Loc) (ls st : List Value) (h : jx_H) (rls : Array Slot) (rst : List Value) (C : jx_C) (K : jx_K) (r : jx_O) (c0 s0 : Nat),
    js_Cx G m p l s mth args meth c → js_S G s H locs h → js_L G (jx_M m) ls rls → js_RL G st rst → c0 ≤ h.2.2.1 → s0 ≤ h.2.2.2 → r.2.2.2.1 - c0 ≤ R.cells → r.2.2.2.2 - s0 ≤ R.slots → 1 ≤ R.frames → 40 ≤ R.locals →
    (∀ pc ls st h, K pc ls st h = some r → jx_le h r.2) → op C ls st h K = some r →
    (∀ (pc' : Nat) (ls' st' : List Value) (h' : jx_H) (H' : Heap) (locs' : List Loc) (rls' : Array Slot) (rst' : List Value), K pc' ls' st' h' = some r → js_S G s H' locs' h' → js_L G (jx_M m) ls' rls' → js_RL G st' rst' → jx_le h h' → W p l e R s mth args below meth c H' locs' (h'.2.2.1 - c0) (h'.2.2.2 - s0) Q (F0 mth pc' rls' rst')) →
    W p l e R s mth args below meth c H locs (h.2.2.1 - c0) (h.2.2.2 - s0) Q (F0 mth pc rls rst)
end JS
