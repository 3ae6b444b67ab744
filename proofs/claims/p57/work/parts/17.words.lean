section JS
def jk_row (P : Nat → jx_Op → Prop) (b : Nat) (r : List jx_Op) : Prop := match r with
  | [] => True
  | o :: r => P b o ∧ jk_row P (b + 1) r
def jk_all (P : Nat → jx_Op → Prop) (b : Nat) (t : List (List jx_Op)) : Prop := match t with
  | [] => True
  | r :: t => jk_row P b r ∧ jk_all P (b + 16) t
theorem jk_row_at {P : Nat → jx_Op → Prop} : ∀ {r : List jx_Op} {b k : Nat} {o : jx_Op} (_ : jk_row P b r), r[k]? = some o → P (b + k) o
  | o :: r, b, 0, o', h, e => by cases e; exact h.1
  | o :: r, b, k + 1, o', h, e => by
    have := jk_row_at (k := k) (o := o') h.2 (by simpa using e)
    rw [show b + (k + 1) = b + 1 + k by omega]; exact this
theorem jk_all_at {P : Nat → jx_Op → Prop} : ∀ {t : List (List jx_Op)} {b c k : Nat} {r : List jx_Op} {o : jx_Op} (_ : jk_all P b t), t[c]? = some r → r[k]? = some o → P (b + 16 * c + k) o
  | r :: t, b, 0, k, r', o', h, e, e2 => by cases e; exact jk_row_at h.1 e2
  | r :: t, b, c + 1, k, r', o', h, e, e2 => by
    have := jk_all_at (c := c) (k := k) h.2 (by simpa using e) e2
    rw [show b + 16 * (c + 1) + k = b + 16 + 16 * c + k by omega]; exact this
theorem jk_tab {P : Nat → jx_Op → Prop} {t : List (List jx_Op)} (hb : ∀ pc, P pc o_bad) (h : jk_all P 0 t) (pc : Nat) : P pc (jx_lk t pc) := by
  unfold jx_lk
  split
  · rename_i r e
    split
    · rename_i o e2
      have := jk_all_at h e e2
      rw [show 0 + 16 * (pc / 16) + pc % 16 = pc by omega] at this
      exact this
    · exact hb pc
  · exact hb pc
theorem kbad {m pc : Nat} : js_Ok m pc o_bad := js_St.ok st_bad
theorem kx0 : decode prog_42_method_4_code 0 = .ok (.aload_n 0, 1) := by decide +kernel
theorem kx1 : decode prog_42_method_4_code 1 = .ok (.aload_n 1, 1) := by decide +kernel
theorem kx2 : decode prog_42_method_4_code 2 = .ok (.invokespecial 13, 3) := by decide +kernel
theorem kx5 : decode prog_42_method_4_code 5 = .ok (.return_, 1) := by decide +kernel
theorem kat_88 : ∀ w ∈ vx_atS "MosaicCatalogue" 88 "java/lang/IndexOutOfBoundsException" ["java/lang/RuntimeException", "java/lang/Exception"], w ∈ lw_tbl ∧ (goodWord w = true ∨ js_nw w = true) := by decide +kernel
theorem kot_88 : ∀ w ∈ vx_atS "MosaicCatalogue" 88 "java/lang/IndexOutOfBoundsException" ["java/lang/RuntimeException", "java/lang/Exception"], vx_ot w = true := by decide +kernel
theorem kat_174 : ∀ w ∈ js_ats "MosaicCatalogue" 174 "java/util/NoSuchElementException" 13 prog_42_method_4_code ["java/lang/RuntimeException", "java/lang/Exception"], w ∈ lw_tbl ∧ (goodWord w = true ∨ js_nw w = true) := by decide +kernel
theorem kot_174 : ∀ w ∈ js_ats "MosaicCatalogue" 174 "java/util/NoSuchElementException" 13 prog_42_method_4_code ["java/lang/RuntimeException", "java/lang/Exception"], vx_ot w = true := by decide +kernel
theorem kat_187 : ∀ w ∈ vx_atS "MosaicCatalogue" 187 "java/lang/IllegalArgumentException" ["java/lang/RuntimeException", "java/lang/Exception"], w ∈ lw_tbl ∧ (goodWord w = true ∨ js_nw w = true) := by decide +kernel
theorem kot_187 : ∀ w ∈ vx_atS "MosaicCatalogue" 187 "java/lang/IllegalArgumentException" ["java/lang/RuntimeException", "java/lang/Exception"], vx_ot w = true := by decide +kernel
theorem kat_272 : ∀ w ∈ vx_atS "MosaicCatalogue" 272 "java/lang/ArithmeticException" ["java/lang/RuntimeException", "java/lang/Exception"], w ∈ lw_tbl ∧ (goodWord w = true ∨ js_nw w = true) := by decide +kernel
theorem kot_272 : ∀ w ∈ vx_atS "MosaicCatalogue" 272 "java/lang/ArithmeticException" ["java/lang/RuntimeException", "java/lang/Exception"], vx_ot w = true := by decide +kernel
theorem kat_309 : ∀ w ∈ vx_atS "MosaicCatalogue" 309 "java/lang/IllegalStateException" ["java/lang/RuntimeException", "java/lang/Exception"], w ∈ lw_tbl ∧ (goodWord w = true ∨ js_nw w = true) := by decide +kernel
theorem kot_309 : ∀ w ∈ vx_atS "MosaicCatalogue" 309 "java/lang/IllegalStateException" ["java/lang/RuntimeException", "java/lang/Exception"], vx_ot w = true := by decide +kernel
theorem kat_347 : ∀ w ∈ vx_atS "MosaicCatalogue" 347 "java/lang/UnsupportedOperationException" ["java/lang/RuntimeException", "java/lang/Exception"], w ∈ lw_tbl ∧ (goodWord w = true ∨ js_nw w = true) := by decide +kernel
theorem kot_347 : ∀ w ∈ vx_atS "MosaicCatalogue" 347 "java/lang/UnsupportedOperationException" ["java/lang/RuntimeException", "java/lang/Exception"], vx_ot w = true := by decide +kernel
theorem kw_23 : (Jvm.Cond.initialized "MosaicCatalogue$Board") ∈ js_ws := js_ws_of 23 (by decide +kernel) (by decide +kernel)
theorem kw_24 : (Jvm.Cond.initialized "MosaicCatalogue$Fragment") ∈ js_ws := js_ws_of 24 (by decide +kernel) (by decide +kernel)
theorem kw_25 : (Jvm.Cond.initialized "MosaicCatalogue$History") ∈ js_ws := js_ws_of 25 (by decide +kernel) (by decide +kernel)
theorem kw_26 : (Jvm.Cond.initialized "MosaicCatalogue$Guesses") ∈ js_ws := js_ws_of 26 (by decide +kernel) (by decide +kernel)
theorem kw_27 : (Jvm.Cond.initialized "MosaicCatalogue$Groups") ∈ js_ws := js_ws_of 27 (by decide +kernel) (by decide +kernel)
theorem kw_28 : (Jvm.Cond.initialized "MosaicCatalogue$Script") ∈ js_ws := js_ws_of 28 (by decide +kernel) (by decide +kernel)
theorem kw_29 : (Jvm.Cond.initialized "MosaicCatalogue$Command") ∈ js_ws := js_ws_of 29 (by decide +kernel) (by decide +kernel)
theorem kw_32 : (Jvm.Cond.initialized "java/lang/System") ∈ js_ws := js_ws_of 32 (by decide +kernel) (by decide +kernel)
theorem kw_36 : (Jvm.Cond.initialized "java/util/NoSuchElementException") ∈ js_ws := js_ws_of 36 (by decide +kernel) (by decide +kernel)
theorem kw_37 : (Jvm.Cond.initialized "java/lang/IndexOutOfBoundsException") ∈ js_ws := js_ws_of 37 (by decide +kernel) (by decide +kernel)
theorem kw_38 : (Jvm.Cond.initialized "java/lang/IllegalArgumentException") ∈ js_ws := js_ws_of 38 (by decide +kernel) (by decide +kernel)
theorem kw_39 : (Jvm.Cond.initialized "java/lang/IllegalStateException") ∈ js_ws := js_ws_of 39 (by decide +kernel) (by decide +kernel)
theorem kw_42 : (Jvm.Cond.initialized "java/lang/String") ∈ js_ws := js_ws_of 42 (by decide +kernel) (by decide +kernel)
theorem kw_43 : (Jvm.Cond.initialized "java/lang/UnsupportedOperationException") ∈ js_ws := js_ws_of 43 (by decide +kernel) (by decide +kernel)
theorem kw_47 : (Jvm.Cond.initialized "java/lang/ArithmeticException") ∈ js_ws := js_ws_of 47 (by decide +kernel) (by decide +kernel)
theorem kw_48 : (Jvm.Cond.initialized "java/lang/Float") ∈ js_ws := js_ws_of 48 (by decide +kernel) (by decide +kernel)
theorem kw_65 : (Jvm.Cond.methodLink "MosaicCatalogue" 1 ⟨"java/lang/Object", "<init>", "()V"⟩) ∈ js_ws := js_ws_of 65 (by decide +kernel) (by decide +kernel)
theorem kw_66 : (Jvm.Cond.instanceMethod ⟨"java/lang/Object", "<init>", "()V"⟩) ∈ js_ws := js_ws_of 66 (by decide +kernel) (by decide +kernel)
theorem kw_67 : (Jvm.Cond.code ⟨"java/lang/Object", "<init>", "()V"⟩ object_method_1_code 1 (none)) ∈ js_ws := js_ws_of 67 (by decide +kernel) (by decide +kernel)
theorem kw_68 : (Jvm.Cond.classLink "MosaicCatalogue" 7 "MosaicCatalogue$Board") ∈ js_ws := js_ws_of 68 (by decide +kernel) (by decide +kernel)
theorem kw_69 : (Jvm.Cond.instantiable "MosaicCatalogue$Board" 4) ∈ js_ws := js_ws_of 69 (by decide +kernel) (by decide +kernel)
theorem kw_70 : (Jvm.Cond.methodLink "MosaicCatalogue" 9 ⟨"MosaicCatalogue$Board", "<init>", "()V"⟩) ∈ js_ws := js_ws_of 70 (by decide +kernel) (by decide +kernel)
theorem kw_71 : (Jvm.Cond.instanceMethod ⟨"MosaicCatalogue$Board", "<init>", "()V"⟩) ∈ js_ws := js_ws_of 71 (by decide +kernel) (by decide +kernel)
theorem kw_73 : (Jvm.Cond.methodLink "MosaicCatalogue$Board" 3 ⟨"java/lang/Object", "<init>", "()V"⟩) ∈ js_ws := js_ws_of 73 (by decide +kernel) (by decide +kernel)
theorem kw_74 : (Jvm.Cond.classLink "MosaicCatalogue$Board" 9 "MosaicCatalogue$Fragment") ∈ js_ws := js_ws_of 74 (by decide +kernel) (by decide +kernel)
theorem kw_76 : (Jvm.Cond.instantiable "MosaicCatalogue$Fragment" 5) ∈ js_ws := js_ws_of 76 (by decide +kernel) (by decide +kernel)
theorem kw_78 : (Jvm.Cond.instanceMethod ⟨"MosaicCatalogue$Fragment", "<init>", "()V"⟩) ∈ js_ws := js_ws_of 78 (by decide +kernel) (by decide +kernel)
theorem kw_80 : (Jvm.Cond.methodLink "MosaicCatalogue$Fragment" 3 ⟨"java/lang/Object", "<init>", "()V"⟩) ∈ js_ws := js_ws_of 80 (by decide +kernel) (by decide +kernel)
theorem kw_82 : (Jvm.Cond.fieldLink "MosaicCatalogue$Fragment" 22 "MosaicCatalogue$Fragment" "id" "I") ∈ js_ws := js_ws_of 82 (by decide +kernel) (by decide +kernel)
theorem kw_85 : (Jvm.Cond.fieldLink "MosaicCatalogue$Fragment" 25 "MosaicCatalogue$Fragment" "colour" "C") ∈ js_ws := js_ws_of 85 (by decide +kernel) (by decide +kernel)
theorem kw_88 : (Jvm.Cond.fieldLink "MosaicCatalogue$Fragment" 9 "MosaicCatalogue$Fragment" "edges" "[I") ∈ js_ws := js_ws_of 88 (by decide +kernel) (by decide +kernel)
theorem kw_91 : (Jvm.Cond.fieldLink "MosaicCatalogue$Fragment" 19 "MosaicCatalogue$Fragment" "turn" "I") ∈ js_ws := js_ws_of 91 (by decide +kernel) (by decide +kernel)
theorem kw_95 : (Jvm.Cond.fieldLink "MosaicCatalogue$Fragment" 15 "MosaicCatalogue$Fragment" "cell" "I") ∈ js_ws := js_ws_of 95 (by decide +kernel) (by decide +kernel)
theorem kw_110 : (Jvm.Cond.arrayClass FieldType.int) ∈ js_ws := js_ws_of 110 (by decide +kernel) (by decide +kernel)
theorem kw_111 : (Jvm.Cond.fieldLink "MosaicCatalogue$Board" 11 "MosaicCatalogue$Board" "fragments" "[LMosaicCatalogue$Fragment;") ∈ js_ws := js_ws_of 111 (by decide +kernel) (by decide +kernel)
theorem kw_115 : (Jvm.Cond.fieldLink "MosaicCatalogue$Board" 17 "MosaicCatalogue$Board" "grid" "[LMosaicCatalogue$Fragment;") ∈ js_ws := js_ws_of 115 (by decide +kernel) (by decide +kernel)
theorem kw_117 : (Jvm.Cond.fieldLink "MosaicCatalogue$Board" 21 "MosaicCatalogue$Board" "count" "I") ∈ js_ws := js_ws_of 117 (by decide +kernel) (by decide +kernel)
theorem kw_121 : (Jvm.Cond.fieldLink "MosaicCatalogue$Board" 25 "MosaicCatalogue$Board" "nextId" "I") ∈ js_ws := js_ws_of 121 (by decide +kernel) (by decide +kernel)
theorem kw_131 : (Jvm.Cond.classLink "MosaicCatalogue" 19 "MosaicCatalogue$History") ∈ js_ws := js_ws_of 131 (by decide +kernel) (by decide +kernel)
theorem kw_132 : (Jvm.Cond.instantiable "MosaicCatalogue$History" 3) ∈ js_ws := js_ws_of 132 (by decide +kernel) (by decide +kernel)
theorem kw_133 : (Jvm.Cond.methodLink "MosaicCatalogue" 21 ⟨"MosaicCatalogue$History", "<init>", "()V"⟩) ∈ js_ws := js_ws_of 133 (by decide +kernel) (by decide +kernel)
theorem kw_134 : (Jvm.Cond.instanceMethod ⟨"MosaicCatalogue$History", "<init>", "()V"⟩) ∈ js_ws := js_ws_of 134 (by decide +kernel) (by decide +kernel)
theorem kw_136 : (Jvm.Cond.methodLink "MosaicCatalogue$History" 3 ⟨"java/lang/Object", "<init>", "()V"⟩) ∈ js_ws := js_ws_of 136 (by decide +kernel) (by decide +kernel)
theorem kw_137 : (Jvm.Cond.classLink "MosaicCatalogue$History" 11 "MosaicCatalogue$Board") ∈ js_ws := js_ws_of 137 (by decide +kernel) (by decide +kernel)
theorem kw_139 : (Jvm.Cond.methodLink "MosaicCatalogue$History" 17 ⟨"MosaicCatalogue$Board", "<init>", "()V"⟩) ∈ js_ws := js_ws_of 139 (by decide +kernel) (by decide +kernel)
theorem kw_140 : (Jvm.Cond.fieldLink "MosaicCatalogue$History" 13 "MosaicCatalogue$History" "ring" "[LMosaicCatalogue$Board;") ∈ js_ws := js_ws_of 140 (by decide +kernel) (by decide +kernel)
theorem kw_141 : (Jvm.Cond.fieldLink "MosaicCatalogue$History" 26 "MosaicCatalogue$History" "next" "I") ∈ js_ws := js_ws_of 141 (by decide +kernel) (by decide +kernel)
theorem kw_142 : (Jvm.Cond.fieldLink "MosaicCatalogue$History" 30 "MosaicCatalogue$History" "count" "I") ∈ js_ws := js_ws_of 142 (by decide +kernel) (by decide +kernel)
theorem kw_151 : (Jvm.Cond.classLink "MosaicCatalogue" 26 "MosaicCatalogue$Guesses") ∈ js_ws := js_ws_of 151 (by decide +kernel) (by decide +kernel)
theorem kw_152 : (Jvm.Cond.instantiable "MosaicCatalogue$Guesses" 4) ∈ js_ws := js_ws_of 152 (by decide +kernel) (by decide +kernel)
theorem kw_154 : (Jvm.Cond.instanceMethod ⟨"MosaicCatalogue$Guesses", "<init>", "()V"⟩) ∈ js_ws := js_ws_of 154 (by decide +kernel) (by decide +kernel)
theorem kw_156 : (Jvm.Cond.methodLink "MosaicCatalogue$Guesses" 3 ⟨"java/lang/Object", "<init>", "()V"⟩) ∈ js_ws := js_ws_of 156 (by decide +kernel) (by decide +kernel)
theorem kw_157 : (Jvm.Cond.fieldLink "MosaicCatalogue$Guesses" 9 "MosaicCatalogue$Guesses" "wanted" "[I") ∈ js_ws := js_ws_of 157 (by decide +kernel) (by decide +kernel)
theorem kw_158 : (Jvm.Cond.fieldLink "MosaicCatalogue$Guesses" 15 "MosaicCatalogue$Guesses" "colours" "[C") ∈ js_ws := js_ws_of 158 (by decide +kernel) (by decide +kernel)
theorem kw_159 : (Jvm.Cond.fieldLink "MosaicCatalogue$Guesses" 19 "MosaicCatalogue$Guesses" "weights" "[I") ∈ js_ws := js_ws_of 159 (by decide +kernel) (by decide +kernel)
theorem kw_160 : (Jvm.Cond.fieldLink "MosaicCatalogue$Guesses" 22 "MosaicCatalogue$Guesses" "gap" "I") ∈ js_ws := js_ws_of 160 (by decide +kernel) (by decide +kernel)
theorem kw_170 : (Jvm.Cond.arrayClass FieldType.char) ∈ js_ws := js_ws_of 170 (by decide +kernel) (by decide +kernel)
theorem kw_171 : (Jvm.Cond.classLink "MosaicCatalogue" 33 "MosaicCatalogue$Groups") ∈ js_ws := js_ws_of 171 (by decide +kernel) (by decide +kernel)
theorem kw_172 : (Jvm.Cond.instantiable "MosaicCatalogue$Groups" 2) ∈ js_ws := js_ws_of 172 (by decide +kernel) (by decide +kernel)
theorem kw_174 : (Jvm.Cond.instanceMethod ⟨"MosaicCatalogue$Groups", "<init>", "()V"⟩) ∈ js_ws := js_ws_of 174 (by decide +kernel) (by decide +kernel)
theorem kw_176 : (Jvm.Cond.methodLink "MosaicCatalogue$Groups" 3 ⟨"java/lang/Object", "<init>", "()V"⟩) ∈ js_ws := js_ws_of 176 (by decide +kernel) (by decide +kernel)
theorem kw_177 : (Jvm.Cond.classLink "MosaicCatalogue$Groups" 9 "MosaicCatalogue$Fragment") ∈ js_ws := js_ws_of 177 (by decide +kernel) (by decide +kernel)
theorem kw_178 : (Jvm.Cond.fieldLink "MosaicCatalogue$Groups" 11 "MosaicCatalogue$Groups" "queue" "[LMosaicCatalogue$Fragment;") ∈ js_ws := js_ws_of 178 (by decide +kernel) (by decide +kernel)
theorem kw_179 : (Jvm.Cond.fieldLink "MosaicCatalogue$Groups" 17 "MosaicCatalogue$Groups" "parents" "[I") ∈ js_ws := js_ws_of 179 (by decide +kernel) (by decide +kernel)
theorem kw_185 : (Jvm.Cond.classLink "MosaicCatalogue" 40 "MosaicCatalogue$Script") ∈ js_ws := js_ws_of 185 (by decide +kernel) (by decide +kernel)
theorem kw_186 : (Jvm.Cond.instantiable "MosaicCatalogue$Script" 5) ∈ js_ws := js_ws_of 186 (by decide +kernel) (by decide +kernel)
theorem kw_187 : (Jvm.Cond.methodLink "MosaicCatalogue" 42 ⟨"MosaicCatalogue$Script", "<init>", "()V"⟩) ∈ js_ws := js_ws_of 187 (by decide +kernel) (by decide +kernel)
theorem kw_188 : (Jvm.Cond.instanceMethod ⟨"MosaicCatalogue$Script", "<init>", "()V"⟩) ∈ js_ws := js_ws_of 188 (by decide +kernel) (by decide +kernel)
theorem kw_190 : (Jvm.Cond.methodLink "MosaicCatalogue$Script" 3 ⟨"java/lang/Object", "<init>", "()V"⟩) ∈ js_ws := js_ws_of 190 (by decide +kernel) (by decide +kernel)
theorem kw_191 : (Jvm.Cond.classLink "MosaicCatalogue$Script" 15 "MosaicCatalogue$Command") ∈ js_ws := js_ws_of 191 (by decide +kernel) (by decide +kernel)
theorem kw_193 : (Jvm.Cond.instantiable "MosaicCatalogue$Command" 2) ∈ js_ws := js_ws_of 193 (by decide +kernel) (by decide +kernel)
theorem kw_195 : (Jvm.Cond.instanceMethod ⟨"MosaicCatalogue$Command", "<init>", "()V"⟩) ∈ js_ws := js_ws_of 195 (by decide +kernel) (by decide +kernel)
theorem kw_197 : (Jvm.Cond.methodLink "MosaicCatalogue$Command" 1 ⟨"java/lang/Object", "<init>", "()V"⟩) ∈ js_ws := js_ws_of 197 (by decide +kernel) (by decide +kernel)
theorem kw_198 : (Jvm.Cond.fieldLink "MosaicCatalogue$Command" 7 "MosaicCatalogue$Keyword" "FILL" "LMosaicCatalogue$Keyword;") ∈ js_ws := js_ws_of 198 (by decide +kernel) (by decide +kernel)
theorem kw_200 : (Jvm.Cond.fieldLink "MosaicCatalogue$Command" 13 "MosaicCatalogue$Command" "keyword" "LMosaicCatalogue$Keyword;") ∈ js_ws := js_ws_of 200 (by decide +kernel) (by decide +kernel)
theorem kw_203 : (Jvm.Cond.fieldLink "MosaicCatalogue$Command" 18 "MosaicCatalogue$Command" "values" "[I") ∈ js_ws := js_ws_of 203 (by decide +kernel) (by decide +kernel)
theorem kw_211 : (Jvm.Cond.fieldLink "MosaicCatalogue$Script" 9 "MosaicCatalogue$Script" "text" "[C") ∈ js_ws := js_ws_of 211 (by decide +kernel) (by decide +kernel)
theorem kw_212 : (Jvm.Cond.fieldLink "MosaicCatalogue$Script" 22 "MosaicCatalogue$Script" "length" "I") ∈ js_ws := js_ws_of 212 (by decide +kernel) (by decide +kernel)
theorem kw_213 : (Jvm.Cond.fieldLink "MosaicCatalogue$Script" 26 "MosaicCatalogue$Script" "position" "I") ∈ js_ws := js_ws_of 213 (by decide +kernel) (by decide +kernel)
theorem kw_215 : (Jvm.Cond.fieldLink "MosaicCatalogue$Script" 17 "MosaicCatalogue$Script" "commands" "[LMosaicCatalogue$Command;") ∈ js_ws := js_ws_of 215 (by decide +kernel) (by decide +kernel)
theorem kw_217 : (Jvm.Cond.fieldLink "MosaicCatalogue$Script" 33 "MosaicCatalogue$Script" "commandCount" "I") ∈ js_ws := js_ws_of 217 (by decide +kernel) (by decide +kernel)
theorem kw_230 : (Jvm.Cond.fieldLink "MosaicCatalogue" 10 "MosaicCatalogue" "board" "LMosaicCatalogue$Board;") ∈ js_ws := js_ws_of 230 (by decide +kernel) (by decide +kernel)
theorem kw_231 : (Jvm.Cond.fieldLink "MosaicCatalogue" 16 "MosaicCatalogue" "saved" "LMosaicCatalogue$Board;") ∈ js_ws := js_ws_of 231 (by decide +kernel) (by decide +kernel)
theorem kw_232 : (Jvm.Cond.fieldLink "MosaicCatalogue" 22 "MosaicCatalogue" "history" "LMosaicCatalogue$History;") ∈ js_ws := js_ws_of 232 (by decide +kernel) (by decide +kernel)
theorem kw_233 : (Jvm.Cond.fieldLink "MosaicCatalogue" 29 "MosaicCatalogue" "guesses" "LMosaicCatalogue$Guesses;") ∈ js_ws := js_ws_of 233 (by decide +kernel) (by decide +kernel)
theorem kw_234 : (Jvm.Cond.fieldLink "MosaicCatalogue" 36 "MosaicCatalogue" "groups" "LMosaicCatalogue$Groups;") ∈ js_ws := js_ws_of 234 (by decide +kernel) (by decide +kernel)
theorem kw_235 : (Jvm.Cond.fieldLink "MosaicCatalogue" 43 "MosaicCatalogue" "script" "LMosaicCatalogue$Script;") ∈ js_ws := js_ws_of 235 (by decide +kernel) (by decide +kernel)
theorem kw_236 : (Jvm.Cond.fieldLink "MosaicCatalogue" 47 "MosaicCatalogue" "output" "[C") ∈ js_ws := js_ws_of 236 (by decide +kernel) (by decide +kernel)
theorem kw_237 : (Jvm.Cond.fieldLink "MosaicCatalogue" 294 "MosaicCatalogue" "outputLength" "I") ∈ js_ws := js_ws_of 237 (by decide +kernel) (by decide +kernel)
theorem kw_238 : (Jvm.Cond.fieldLink "MosaicCatalogue" 51 "MosaicCatalogue" "keptPosition" "I") ∈ js_ws := js_ws_of 238 (by decide +kernel) (by decide +kernel)
theorem kw_239 : (Jvm.Cond.fieldLink "MosaicCatalogue" 55 "MosaicCatalogue" "keptCommand" "I") ∈ js_ws := js_ws_of 239 (by decide +kernel) (by decide +kernel)
theorem kw_279 : (Jvm.Cond.methodLink "MosaicCatalogue" 58 ⟨"MosaicCatalogue$History", "prepare", "(LMosaicCatalogue$Board;)V"⟩) ∈ js_ws := js_ws_of 279 (by decide +kernel) (by decide +kernel)
theorem kw_280 : (Jvm.Cond.instanceMethod ⟨"MosaicCatalogue$History", "prepare", "(LMosaicCatalogue$Board;)V"⟩) ∈ js_ws := js_ws_of 280 (by decide +kernel) (by decide +kernel)
theorem kw_281 : (Jvm.Cond.selects "MosaicCatalogue$History" ⟨"MosaicCatalogue$History", "prepare", "(LMosaicCatalogue$Board;)V"⟩ ⟨"MosaicCatalogue$History", "prepare", "(LMosaicCatalogue$Board;)V"⟩) ∈ js_ws := js_ws_of 281 (by decide +kernel) (by decide +kernel)
theorem kw_283 : (Jvm.Cond.methodLink "MosaicCatalogue$History" 18 ⟨"MosaicCatalogue$History", "prepared", "()LMosaicCatalogue$Board;"⟩) ∈ js_ws := js_ws_of 283 (by decide +kernel) (by decide +kernel)
theorem kw_284 : (Jvm.Cond.instanceMethod ⟨"MosaicCatalogue$History", "prepared", "()LMosaicCatalogue$Board;"⟩) ∈ js_ws := js_ws_of 284 (by decide +kernel) (by decide +kernel)
theorem kw_285 : (Jvm.Cond.selects "MosaicCatalogue$History" ⟨"MosaicCatalogue$History", "prepared", "()LMosaicCatalogue$Board;"⟩ ⟨"MosaicCatalogue$History", "prepared", "()LMosaicCatalogue$Board;"⟩) ∈ js_ws := js_ws_of 285 (by decide +kernel) (by decide +kernel)
theorem kw_287 : (Jvm.Cond.methodLink "MosaicCatalogue$History" 22 ⟨"MosaicCatalogue$Board", "copyFrom", "(LMosaicCatalogue$Board;)V"⟩) ∈ js_ws := js_ws_of 287 (by decide +kernel) (by decide +kernel)
theorem kw_288 : (Jvm.Cond.instanceMethod ⟨"MosaicCatalogue$Board", "copyFrom", "(LMosaicCatalogue$Board;)V"⟩) ∈ js_ws := js_ws_of 288 (by decide +kernel) (by decide +kernel)
theorem kw_289 : (Jvm.Cond.selects "MosaicCatalogue$Board" ⟨"MosaicCatalogue$Board", "copyFrom", "(LMosaicCatalogue$Board;)V"⟩ ⟨"MosaicCatalogue$Board", "copyFrom", "(LMosaicCatalogue$Board;)V"⟩) ∈ js_ws := js_ws_of 289 (by decide +kernel) (by decide +kernel)
theorem kw_291 : (Jvm.Cond.methodLink "MosaicCatalogue$Board" 28 ⟨"MosaicCatalogue$Fragment", "copyFrom", "(LMosaicCatalogue$Fragment;)V"⟩) ∈ js_ws := js_ws_of 291 (by decide +kernel) (by decide +kernel)
theorem kw_292 : (Jvm.Cond.instanceMethod ⟨"MosaicCatalogue$Fragment", "copyFrom", "(LMosaicCatalogue$Fragment;)V"⟩) ∈ js_ws := js_ws_of 292 (by decide +kernel) (by decide +kernel)
theorem kw_293 : (Jvm.Cond.selects "MosaicCatalogue$Fragment" ⟨"MosaicCatalogue$Fragment", "copyFrom", "(LMosaicCatalogue$Fragment;)V"⟩ ⟨"MosaicCatalogue$Fragment", "copyFrom", "(LMosaicCatalogue$Fragment;)V"⟩) ∈ js_ws := js_ws_of 293 (by decide +kernel) (by decide +kernel)
theorem kw_295 : (Jvm.Cond.methodLink "MosaicCatalogue$Fragment" 29 ⟨"java/lang/System", "arraycopy", "(Ljava/lang/Object;ILjava/lang/Object;II)V"⟩) ∈ js_ws := js_ws_of 295 (by decide +kernel) (by decide +kernel)
theorem kw_296 : (Jvm.Cond.static ⟨"java/lang/System", "arraycopy", "(Ljava/lang/Object;ILjava/lang/Object;II)V"⟩) ∈ js_ws := js_ws_of 296 (by decide +kernel) (by decide +kernel)
theorem kw_297 : (Jvm.Cond.native ⟨"java/lang/System", "arraycopy", "(Ljava/lang/Object;ILjava/lang/Object;II)V"⟩) ∈ js_ws := js_ws_of 297 (by decide +kernel) (by decide +kernel)
theorem kw_298 : (Jvm.Cond.methodLink "MosaicCatalogue$Board" 32 ⟨"MosaicCatalogue$Fragment", "isOnGrid", "()Z"⟩) ∈ js_ws := js_ws_of 298 (by decide +kernel) (by decide +kernel)
theorem kw_299 : (Jvm.Cond.instanceMethod ⟨"MosaicCatalogue$Fragment", "isOnGrid", "()Z"⟩) ∈ js_ws := js_ws_of 299 (by decide +kernel) (by decide +kernel)
theorem kw_300 : (Jvm.Cond.selects "MosaicCatalogue$Fragment" ⟨"MosaicCatalogue$Fragment", "isOnGrid", "()Z"⟩ ⟨"MosaicCatalogue$Fragment", "isOnGrid", "()Z"⟩) ∈ js_ws := js_ws_of 300 (by decide +kernel) (by decide +kernel)
theorem kw_302 : (Jvm.Cond.methodLink "MosaicCatalogue" 62 ⟨"MosaicCatalogue$Board", "addToTray", "(CIIII)I"⟩) ∈ js_ws := js_ws_of 302 (by decide +kernel) (by decide +kernel)
theorem kw_303 : (Jvm.Cond.instanceMethod ⟨"MosaicCatalogue$Board", "addToTray", "(CIIII)I"⟩) ∈ js_ws := js_ws_of 303 (by decide +kernel) (by decide +kernel)
theorem kw_304 : (Jvm.Cond.selects "MosaicCatalogue$Board" ⟨"MosaicCatalogue$Board", "addToTray", "(CIIII)I"⟩ ⟨"MosaicCatalogue$Board", "addToTray", "(CIIII)I"⟩) ∈ js_ws := js_ws_of 304 (by decide +kernel) (by decide +kernel)
theorem kw_307 : (Jvm.Cond.static ⟨"MosaicCatalogue", "isColour", "(C)Z"⟩) ∈ js_ws := js_ws_of 307 (by decide +kernel) (by decide +kernel)
theorem kw_310 : (Jvm.Cond.static ⟨"MosaicCatalogue", "isUpTo", "(II)Z"⟩) ∈ js_ws := js_ws_of 310 (by decide +kernel) (by decide +kernel)
theorem kw_312 : (Jvm.Cond.methodLink "MosaicCatalogue" 66 ⟨"MosaicCatalogue", "settle", "(I)I"⟩) ∈ js_ws := js_ws_of 312 (by decide +kernel) (by decide +kernel)
theorem kw_314 : (Jvm.Cond.instanceMethod ⟨"MosaicCatalogue", "settle", "(I)I"⟩) ∈ js_ws := js_ws_of 314 (by decide +kernel) (by decide +kernel)
theorem kw_316 : (Jvm.Cond.methodLink "MosaicCatalogue" 365 ⟨"MosaicCatalogue", "throwIfRefused", "(I)V"⟩) ∈ js_ws := js_ws_of 316 (by decide +kernel) (by decide +kernel)
theorem kw_317 : (Jvm.Cond.static ⟨"MosaicCatalogue", "throwIfRefused", "(I)V"⟩) ∈ js_ws := js_ws_of 317 (by decide +kernel) (by decide +kernel)
theorem kw_319 : (Jvm.Cond.classLink "MosaicCatalogue" 170 "java/util/NoSuchElementException") ∈ js_ws := js_ws_of 319 (by decide +kernel) (by decide +kernel)
theorem kw_390 : (Jvm.Cond.arrayClass FieldType.byte) ∈ js_ws := js_ws_of 390 (by decide +kernel) (by decide +kernel)
theorem kw_391 : (Jvm.Cond.classLink "MosaicCatalogue" 84 "java/lang/IndexOutOfBoundsException") ∈ js_ws := js_ws_of 391 (by decide +kernel) (by decide +kernel)
theorem kw_407 : (Jvm.Cond.classLink "MosaicCatalogue" 183 "java/lang/IllegalArgumentException") ∈ js_ws := js_ws_of 407 (by decide +kernel) (by decide +kernel)
theorem kw_423 : (Jvm.Cond.classLink "MosaicCatalogue" 305 "java/lang/IllegalStateException") ∈ js_ws := js_ws_of 423 (by decide +kernel) (by decide +kernel)
theorem kw_439 : (Jvm.Cond.methodLink "MosaicCatalogue" 368 ⟨"MosaicCatalogue$History", "keep", "()V"⟩) ∈ js_ws := js_ws_of 439 (by decide +kernel) (by decide +kernel)
theorem kw_440 : (Jvm.Cond.instanceMethod ⟨"MosaicCatalogue$History", "keep", "()V"⟩) ∈ js_ws := js_ws_of 440 (by decide +kernel) (by decide +kernel)
theorem kw_441 : (Jvm.Cond.selects "MosaicCatalogue$History" ⟨"MosaicCatalogue$History", "keep", "()V"⟩ ⟨"MosaicCatalogue$History", "keep", "()V"⟩) ∈ js_ws := js_ws_of 441 (by decide +kernel) (by decide +kernel)
theorem kw_443 : (Jvm.Cond.methodLink "MosaicCatalogue$History" 33 ⟨"java/lang/Math", "min", "(II)I"⟩) ∈ js_ws := js_ws_of 443 (by decide +kernel) (by decide +kernel)
theorem kw_444 : (Jvm.Cond.static ⟨"java/lang/Math", "min", "(II)I"⟩) ∈ js_ws := js_ws_of 444 (by decide +kernel) (by decide +kernel)
theorem kw_454 : (Jvm.Cond.methodLink "MosaicCatalogue" 142 ⟨"MosaicCatalogue$Board", "turnTo", "(II)I"⟩) ∈ js_ws := js_ws_of 454 (by decide +kernel) (by decide +kernel)
theorem kw_455 : (Jvm.Cond.instanceMethod ⟨"MosaicCatalogue$Board", "turnTo", "(II)I"⟩) ∈ js_ws := js_ws_of 455 (by decide +kernel) (by decide +kernel)
theorem kw_456 : (Jvm.Cond.selects "MosaicCatalogue$Board" ⟨"MosaicCatalogue$Board", "turnTo", "(II)I"⟩ ⟨"MosaicCatalogue$Board", "turnTo", "(II)I"⟩) ∈ js_ws := js_ws_of 456 (by decide +kernel) (by decide +kernel)
theorem kw_458 : (Jvm.Cond.methodLink "MosaicCatalogue$Board" 65 ⟨"MosaicCatalogue$Board", "find", "(I)LMosaicCatalogue$Fragment;"⟩) ∈ js_ws := js_ws_of 458 (by decide +kernel) (by decide +kernel)
theorem kw_459 : (Jvm.Cond.instanceMethod ⟨"MosaicCatalogue$Board", "find", "(I)LMosaicCatalogue$Fragment;"⟩) ∈ js_ws := js_ws_of 459 (by decide +kernel) (by decide +kernel)
theorem kw_460 : (Jvm.Cond.selects "MosaicCatalogue$Board" ⟨"MosaicCatalogue$Board", "find", "(I)LMosaicCatalogue$Fragment;"⟩ ⟨"MosaicCatalogue$Board", "find", "(I)LMosaicCatalogue$Fragment;"⟩) ∈ js_ws := js_ws_of 460 (by decide +kernel) (by decide +kernel)
theorem kw_462 : (Jvm.Cond.methodLink "MosaicCatalogue$Board" 42 ⟨"MosaicCatalogue$Board", "indexOf", "(I)I"⟩) ∈ js_ws := js_ws_of 462 (by decide +kernel) (by decide +kernel)
theorem kw_464 : (Jvm.Cond.instanceMethod ⟨"MosaicCatalogue$Board", "indexOf", "(I)I"⟩) ∈ js_ws := js_ws_of 464 (by decide +kernel) (by decide +kernel)
theorem kw_485 : (Jvm.Cond.instantiable "java/lang/String" 4) ∈ js_ws := js_ws_of 485 (by decide +kernel) (by decide +kernel)
theorem kw_495 : (Jvm.Cond.methodLink "MosaicCatalogue" 149 ⟨"MosaicCatalogue", "gapOf", "(II)I"⟩) ∈ js_ws := js_ws_of 495 (by decide +kernel) (by decide +kernel)
theorem kw_497 : (Jvm.Cond.instanceMethod ⟨"MosaicCatalogue", "gapOf", "(II)I"⟩) ∈ js_ws := js_ws_of 497 (by decide +kernel) (by decide +kernel)
theorem kw_499 : (Jvm.Cond.methodLink "MosaicCatalogue" 167 ⟨"MosaicCatalogue", "cellOf", "(II)I"⟩) ∈ js_ws := js_ws_of 499 (by decide +kernel) (by decide +kernel)
theorem kw_500 : (Jvm.Cond.static ⟨"MosaicCatalogue", "cellOf", "(II)I"⟩) ∈ js_ws := js_ws_of 500 (by decide +kernel) (by decide +kernel)
theorem kw_502 : (Jvm.Cond.methodLink "MosaicCatalogue" 225 ⟨"MosaicCatalogue", "isUpTo", "(II)Z"⟩) ∈ js_ws := js_ws_of 502 (by decide +kernel) (by decide +kernel)
theorem kw_503 : (Jvm.Cond.methodLink "MosaicCatalogue" 235 ⟨"MosaicCatalogue", "checkGap", "(I)V"⟩) ∈ js_ws := js_ws_of 503 (by decide +kernel) (by decide +kernel)
theorem kw_505 : (Jvm.Cond.instanceMethod ⟨"MosaicCatalogue", "checkGap", "(I)V"⟩) ∈ js_ws := js_ws_of 505 (by decide +kernel) (by decide +kernel)
theorem kw_507 : (Jvm.Cond.methodLink "MosaicCatalogue" 188 ⟨"MosaicCatalogue$Board", "isGap", "(I)Z"⟩) ∈ js_ws := js_ws_of 507 (by decide +kernel) (by decide +kernel)
theorem kw_508 : (Jvm.Cond.instanceMethod ⟨"MosaicCatalogue$Board", "isGap", "(I)Z"⟩) ∈ js_ws := js_ws_of 508 (by decide +kernel) (by decide +kernel)
theorem kw_509 : (Jvm.Cond.selects "MosaicCatalogue$Board" ⟨"MosaicCatalogue$Board", "isGap", "(I)Z"⟩ ⟨"MosaicCatalogue$Board", "isGap", "(I)Z"⟩) ∈ js_ws := js_ws_of 509 (by decide +kernel) (by decide +kernel)
theorem kw_511 : (Jvm.Cond.methodLink "MosaicCatalogue$Board" 91 ⟨"MosaicCatalogue$Board", "countNeighbours", "(I)I"⟩) ∈ js_ws := js_ws_of 511 (by decide +kernel) (by decide +kernel)
theorem kw_512 : (Jvm.Cond.instanceMethod ⟨"MosaicCatalogue$Board", "countNeighbours", "(I)I"⟩) ∈ js_ws := js_ws_of 512 (by decide +kernel) (by decide +kernel)
theorem kw_513 : (Jvm.Cond.selects "MosaicCatalogue$Board" ⟨"MosaicCatalogue$Board", "countNeighbours", "(I)I"⟩ ⟨"MosaicCatalogue$Board", "countNeighbours", "(I)I"⟩) ∈ js_ws := js_ws_of 513 (by decide +kernel) (by decide +kernel)
theorem kw_515 : (Jvm.Cond.methodLink "MosaicCatalogue$Board" 87 ⟨"MosaicCatalogue$Board", "neighbour", "(II)LMosaicCatalogue$Fragment;"⟩) ∈ js_ws := js_ws_of 515 (by decide +kernel) (by decide +kernel)
theorem kw_516 : (Jvm.Cond.instanceMethod ⟨"MosaicCatalogue$Board", "neighbour", "(II)LMosaicCatalogue$Fragment;"⟩) ∈ js_ws := js_ws_of 516 (by decide +kernel) (by decide +kernel)
theorem kw_517 : (Jvm.Cond.selects "MosaicCatalogue$Board" ⟨"MosaicCatalogue$Board", "neighbour", "(II)LMosaicCatalogue$Fragment;"⟩ ⟨"MosaicCatalogue$Board", "neighbour", "(II)LMosaicCatalogue$Fragment;"⟩) ∈ js_ws := js_ws_of 517 (by decide +kernel) (by decide +kernel)
theorem kw_523 : (Jvm.Cond.classLink "MosaicCatalogue" 343 "java/lang/UnsupportedOperationException") ∈ js_ws := js_ws_of 523 (by decide +kernel) (by decide +kernel)
theorem kw_539 : (Jvm.Cond.methodLink "MosaicCatalogue" 152 ⟨"MosaicCatalogue", "guessFor", "(II)LMosaicCatalogue$Fragment;"⟩) ∈ js_ws := js_ws_of 539 (by decide +kernel) (by decide +kernel)
theorem kw_541 : (Jvm.Cond.instanceMethod ⟨"MosaicCatalogue", "guessFor", "(II)LMosaicCatalogue$Fragment;"⟩) ∈ js_ws := js_ws_of 541 (by decide +kernel) (by decide +kernel)
theorem kw_543 : (Jvm.Cond.methodLink "MosaicCatalogue" 238 ⟨"MosaicCatalogue$Guesses", "lookAt", "(LMosaicCatalogue$Board;I)V"⟩) ∈ js_ws := js_ws_of 543 (by decide +kernel) (by decide +kernel)
theorem kw_544 : (Jvm.Cond.instanceMethod ⟨"MosaicCatalogue$Guesses", "lookAt", "(LMosaicCatalogue$Board;I)V"⟩) ∈ js_ws := js_ws_of 544 (by decide +kernel) (by decide +kernel)
theorem kw_545 : (Jvm.Cond.selects "MosaicCatalogue$Guesses" ⟨"MosaicCatalogue$Guesses", "lookAt", "(LMosaicCatalogue$Board;I)V"⟩ ⟨"MosaicCatalogue$Guesses", "lookAt", "(LMosaicCatalogue$Board;I)V"⟩) ∈ js_ws := js_ws_of 545 (by decide +kernel) (by decide +kernel)
theorem kw_547 : (Jvm.Cond.methodLink "MosaicCatalogue$Guesses" 26 ⟨"MosaicCatalogue$Board", "neighbour", "(II)LMosaicCatalogue$Fragment;"⟩) ∈ js_ws := js_ws_of 547 (by decide +kernel) (by decide +kernel)
theorem kw_549 : (Jvm.Cond.static ⟨"MosaicCatalogue", "opposite", "(I)I"⟩) ∈ js_ws := js_ws_of 549 (by decide +kernel) (by decide +kernel)
theorem kw_551 : (Jvm.Cond.methodLink "MosaicCatalogue$Guesses" 36 ⟨"MosaicCatalogue$Fragment", "edgeAt", "(I)I"⟩) ∈ js_ws := js_ws_of 551 (by decide +kernel) (by decide +kernel)
theorem kw_552 : (Jvm.Cond.instanceMethod ⟨"MosaicCatalogue$Fragment", "edgeAt", "(I)I"⟩) ∈ js_ws := js_ws_of 552 (by decide +kernel) (by decide +kernel)
theorem kw_553 : (Jvm.Cond.selects "MosaicCatalogue$Fragment" ⟨"MosaicCatalogue$Fragment", "edgeAt", "(I)I"⟩ ⟨"MosaicCatalogue$Fragment", "edgeAt", "(I)I"⟩) ∈ js_ws := js_ws_of 553 (by decide +kernel) (by decide +kernel)
theorem kw_555 : (Jvm.Cond.methodLink "MosaicCatalogue" 383 ⟨"MosaicCatalogue$Guesses", "pieceOfRank", "(LMosaicCatalogue$Board;I)LMosaicCatalogue$Fragment;"⟩) ∈ js_ws := js_ws_of 555 (by decide +kernel) (by decide +kernel)
theorem kw_556 : (Jvm.Cond.instanceMethod ⟨"MosaicCatalogue$Guesses", "pieceOfRank", "(LMosaicCatalogue$Board;I)LMosaicCatalogue$Fragment;"⟩) ∈ js_ws := js_ws_of 556 (by decide +kernel) (by decide +kernel)
theorem kw_557 : (Jvm.Cond.selects "MosaicCatalogue$Guesses" ⟨"MosaicCatalogue$Guesses", "pieceOfRank", "(LMosaicCatalogue$Board;I)LMosaicCatalogue$Fragment;"⟩ ⟨"MosaicCatalogue$Guesses", "pieceOfRank", "(LMosaicCatalogue$Board;I)LMosaicCatalogue$Fragment;"⟩) ∈ js_ws := js_ws_of 557 (by decide +kernel) (by decide +kernel)
theorem kw_559 : (Jvm.Cond.methodLink "MosaicCatalogue$Guesses" 65 ⟨"MosaicCatalogue$Guesses", "topWeight", "(LMosaicCatalogue$Fragment;)I"⟩) ∈ js_ws := js_ws_of 559 (by decide +kernel) (by decide +kernel)
theorem kw_561 : (Jvm.Cond.instanceMethod ⟨"MosaicCatalogue$Guesses", "topWeight", "(LMosaicCatalogue$Fragment;)I"⟩) ∈ js_ws := js_ws_of 561 (by decide +kernel) (by decide +kernel)
theorem kw_563 : (Jvm.Cond.methodLink "MosaicCatalogue$Guesses" 48 ⟨"MosaicCatalogue$Guesses", "weightOf", "(LMosaicCatalogue$Fragment;I)I"⟩) ∈ js_ws := js_ws_of 563 (by decide +kernel) (by decide +kernel)
theorem kw_564 : (Jvm.Cond.instanceMethod ⟨"MosaicCatalogue$Guesses", "weightOf", "(LMosaicCatalogue$Fragment;I)I"⟩) ∈ js_ws := js_ws_of 564 (by decide +kernel) (by decide +kernel)
theorem kw_565 : (Jvm.Cond.selects "MosaicCatalogue$Guesses" ⟨"MosaicCatalogue$Guesses", "weightOf", "(LMosaicCatalogue$Fragment;I)I"⟩ ⟨"MosaicCatalogue$Guesses", "weightOf", "(LMosaicCatalogue$Fragment;I)I"⟩) ∈ js_ws := js_ws_of 565 (by decide +kernel) (by decide +kernel)
theorem kw_567 : (Jvm.Cond.methodLink "MosaicCatalogue$Guesses" 52 ⟨"java/lang/Math", "max", "(II)I"⟩) ∈ js_ws := js_ws_of 567 (by decide +kernel) (by decide +kernel)
theorem kw_568 : (Jvm.Cond.static ⟨"java/lang/Math", "max", "(II)I"⟩) ∈ js_ws := js_ws_of 568 (by decide +kernel) (by decide +kernel)
theorem kw_570 : (Jvm.Cond.methodLink "MosaicCatalogue$Guesses" 69 ⟨"MosaicCatalogue$Fragment", "isOnGrid", "()Z"⟩) ∈ js_ws := js_ws_of 570 (by decide +kernel) (by decide +kernel)
theorem kw_571 : (Jvm.Cond.methodLink "MosaicCatalogue$Guesses" 73 ⟨"MosaicCatalogue$Guesses", "rankOf", "(LMosaicCatalogue$Board;I)I"⟩) ∈ js_ws := js_ws_of 571 (by decide +kernel) (by decide +kernel)
theorem kw_573 : (Jvm.Cond.instanceMethod ⟨"MosaicCatalogue$Guesses", "rankOf", "(LMosaicCatalogue$Board;I)I"⟩) ∈ js_ws := js_ws_of 573 (by decide +kernel) (by decide +kernel)
theorem kw_576 : (Jvm.Cond.methodLink "MosaicCatalogue" 156 ⟨"MosaicCatalogue$Guesses", "putGuess", "(LMosaicCatalogue$Board;LMosaicCatalogue$Fragment;)V"⟩) ∈ js_ws := js_ws_of 576 (by decide +kernel) (by decide +kernel)
theorem kw_577 : (Jvm.Cond.instanceMethod ⟨"MosaicCatalogue$Guesses", "putGuess", "(LMosaicCatalogue$Board;LMosaicCatalogue$Fragment;)V"⟩) ∈ js_ws := js_ws_of 577 (by decide +kernel) (by decide +kernel)
theorem kw_578 : (Jvm.Cond.selects "MosaicCatalogue$Guesses" ⟨"MosaicCatalogue$Guesses", "putGuess", "(LMosaicCatalogue$Board;LMosaicCatalogue$Fragment;)V"⟩ ⟨"MosaicCatalogue$Guesses", "putGuess", "(LMosaicCatalogue$Board;LMosaicCatalogue$Fragment;)V"⟩) ∈ js_ws := js_ws_of 578 (by decide +kernel) (by decide +kernel)
theorem kw_580 : (Jvm.Cond.methodLink "MosaicCatalogue$Guesses" 77 ⟨"MosaicCatalogue$Guesses", "turnFor", "(LMosaicCatalogue$Fragment;)I"⟩) ∈ js_ws := js_ws_of 580 (by decide +kernel) (by decide +kernel)
theorem kw_581 : (Jvm.Cond.instanceMethod ⟨"MosaicCatalogue$Guesses", "turnFor", "(LMosaicCatalogue$Fragment;)I"⟩) ∈ js_ws := js_ws_of 581 (by decide +kernel) (by decide +kernel)
theorem kw_582 : (Jvm.Cond.selects "MosaicCatalogue$Guesses" ⟨"MosaicCatalogue$Guesses", "turnFor", "(LMosaicCatalogue$Fragment;)I"⟩ ⟨"MosaicCatalogue$Guesses", "turnFor", "(LMosaicCatalogue$Fragment;)I"⟩) ∈ js_ws := js_ws_of 582 (by decide +kernel) (by decide +kernel)
theorem kw_584 : (Jvm.Cond.methodLink "MosaicCatalogue$Guesses" 83 ⟨"MosaicCatalogue$Board", "lay", "(LMosaicCatalogue$Fragment;I)V"⟩) ∈ js_ws := js_ws_of 584 (by decide +kernel) (by decide +kernel)
theorem kw_585 : (Jvm.Cond.instanceMethod ⟨"MosaicCatalogue$Board", "lay", "(LMosaicCatalogue$Fragment;I)V"⟩) ∈ js_ws := js_ws_of 585 (by decide +kernel) (by decide +kernel)
theorem kw_586 : (Jvm.Cond.selects "MosaicCatalogue$Board" ⟨"MosaicCatalogue$Board", "lay", "(LMosaicCatalogue$Fragment;I)V"⟩ ⟨"MosaicCatalogue$Board", "lay", "(LMosaicCatalogue$Fragment;I)V"⟩) ∈ js_ws := js_ws_of 586 (by decide +kernel) (by decide +kernel)
theorem kw_595 : (Jvm.Cond.methodLink "MosaicCatalogue" 135 ⟨"MosaicCatalogue$Board", "putDown", "(III)I"⟩) ∈ js_ws := js_ws_of 595 (by decide +kernel) (by decide +kernel)
theorem kw_596 : (Jvm.Cond.instanceMethod ⟨"MosaicCatalogue$Board", "putDown", "(III)I"⟩) ∈ js_ws := js_ws_of 596 (by decide +kernel) (by decide +kernel)
theorem kw_597 : (Jvm.Cond.selects "MosaicCatalogue$Board" ⟨"MosaicCatalogue$Board", "putDown", "(III)I"⟩ ⟨"MosaicCatalogue$Board", "putDown", "(III)I"⟩) ∈ js_ws := js_ws_of 597 (by decide +kernel) (by decide +kernel)
theorem kw_599 : (Jvm.Cond.methodLink "MosaicCatalogue$Board" 69 ⟨"MosaicCatalogue$Board", "lay", "(LMosaicCatalogue$Fragment;I)V"⟩) ∈ js_ws := js_ws_of 599 (by decide +kernel) (by decide +kernel)
theorem kw_600 : (Jvm.Cond.methodLink "MosaicCatalogue$Board" 73 ⟨"MosaicCatalogue$Board", "countMeetings", "(LMosaicCatalogue$Fragment;Z)I"⟩) ∈ js_ws := js_ws_of 600 (by decide +kernel) (by decide +kernel)
theorem kw_601 : (Jvm.Cond.instanceMethod ⟨"MosaicCatalogue$Board", "countMeetings", "(LMosaicCatalogue$Fragment;Z)I"⟩) ∈ js_ws := js_ws_of 601 (by decide +kernel) (by decide +kernel)
theorem kw_602 : (Jvm.Cond.selects "MosaicCatalogue$Board" ⟨"MosaicCatalogue$Board", "countMeetings", "(LMosaicCatalogue$Fragment;Z)I"⟩ ⟨"MosaicCatalogue$Board", "countMeetings", "(LMosaicCatalogue$Fragment;Z)I"⟩) ∈ js_ws := js_ws_of 602 (by decide +kernel) (by decide +kernel)
theorem kw_604 : (Jvm.Cond.methodLink "MosaicCatalogue$Board" 100 ⟨"MosaicCatalogue$Board", "meets", "(LMosaicCatalogue$Fragment;IZ)Z"⟩) ∈ js_ws := js_ws_of 604 (by decide +kernel) (by decide +kernel)
theorem kw_605 : (Jvm.Cond.instanceMethod ⟨"MosaicCatalogue$Board", "meets", "(LMosaicCatalogue$Fragment;IZ)Z"⟩) ∈ js_ws := js_ws_of 605 (by decide +kernel) (by decide +kernel)
theorem kw_606 : (Jvm.Cond.selects "MosaicCatalogue$Board" ⟨"MosaicCatalogue$Board", "meets", "(LMosaicCatalogue$Fragment;IZ)Z"⟩ ⟨"MosaicCatalogue$Board", "meets", "(LMosaicCatalogue$Fragment;IZ)Z"⟩) ∈ js_ws := js_ws_of 606 (by decide +kernel) (by decide +kernel)
theorem kw_608 : (Jvm.Cond.methodLink "MosaicCatalogue$Board" 94 ⟨"MosaicCatalogue$Fragment", "edgeAt", "(I)I"⟩) ∈ js_ws := js_ws_of 608 (by decide +kernel) (by decide +kernel)
theorem kw_617 : (Jvm.Cond.methodLink "MosaicCatalogue" 139 ⟨"MosaicCatalogue$Board", "pickUp", "(I)I"⟩) ∈ js_ws := js_ws_of 617 (by decide +kernel) (by decide +kernel)
theorem kw_618 : (Jvm.Cond.instanceMethod ⟨"MosaicCatalogue$Board", "pickUp", "(I)I"⟩) ∈ js_ws := js_ws_of 618 (by decide +kernel) (by decide +kernel)
theorem kw_619 : (Jvm.Cond.selects "MosaicCatalogue$Board" ⟨"MosaicCatalogue$Board", "pickUp", "(I)I"⟩ ⟨"MosaicCatalogue$Board", "pickUp", "(I)I"⟩) ∈ js_ws := js_ws_of 619 (by decide +kernel) (by decide +kernel)
theorem kw_628 : (Jvm.Cond.methodLink "MosaicCatalogue" 96 ⟨"MosaicCatalogue$Board", "find", "(I)LMosaicCatalogue$Fragment;"⟩) ∈ js_ws := js_ws_of 628 (by decide +kernel) (by decide +kernel)
theorem kw_636 : (Jvm.Cond.methodLink "MosaicCatalogue" 99 ⟨"MosaicCatalogue", "pieceOf", "(I)LMosaicCatalogue$Fragment;"⟩) ∈ js_ws := js_ws_of 636 (by decide +kernel) (by decide +kernel)
theorem kw_638 : (Jvm.Cond.instanceMethod ⟨"MosaicCatalogue", "pieceOf", "(I)LMosaicCatalogue$Fragment;"⟩) ∈ js_ws := js_ws_of 638 (by decide +kernel) (by decide +kernel)
theorem kw_654 : (Jvm.Cond.methodLink "MosaicCatalogue" 116 ⟨"MosaicCatalogue$Fragment", "isOnGrid", "()Z"⟩) ∈ js_ws := js_ws_of 654 (by decide +kernel) (by decide +kernel)
theorem kw_662 : (Jvm.Cond.methodLink "MosaicCatalogue" 109 ⟨"MosaicCatalogue", "checkSide", "(I)V"⟩) ∈ js_ws := js_ws_of 662 (by decide +kernel) (by decide +kernel)
theorem kw_663 : (Jvm.Cond.static ⟨"MosaicCatalogue", "checkSide", "(I)V"⟩) ∈ js_ws := js_ws_of 663 (by decide +kernel) (by decide +kernel)
theorem kw_666 : (Jvm.Cond.methodLink "MosaicCatalogue" 113 ⟨"MosaicCatalogue$Fragment", "edgeAt", "(I)I"⟩) ∈ js_ws := js_ws_of 666 (by decide +kernel) (by decide +kernel)
theorem kw_674 : (Jvm.Cond.methodLink "MosaicCatalogue" 80 ⟨"MosaicCatalogue$Board", "trayPiece", "(I)LMosaicCatalogue$Fragment;"⟩) ∈ js_ws := js_ws_of 674 (by decide +kernel) (by decide +kernel)
theorem kw_675 : (Jvm.Cond.instanceMethod ⟨"MosaicCatalogue$Board", "trayPiece", "(I)LMosaicCatalogue$Fragment;"⟩) ∈ js_ws := js_ws_of 675 (by decide +kernel) (by decide +kernel)
theorem kw_676 : (Jvm.Cond.selects "MosaicCatalogue$Board" ⟨"MosaicCatalogue$Board", "trayPiece", "(I)LMosaicCatalogue$Fragment;"⟩ ⟨"MosaicCatalogue$Board", "trayPiece", "(I)LMosaicCatalogue$Fragment;"⟩) ∈ js_ws := js_ws_of 676 (by decide +kernel) (by decide +kernel)
theorem kw_686 : (Jvm.Cond.methodLink "MosaicCatalogue" 120 ⟨"MosaicCatalogue", "gridPieceOf", "(I)LMosaicCatalogue$Fragment;"⟩) ∈ js_ws := js_ws_of 686 (by decide +kernel) (by decide +kernel)
theorem kw_688 : (Jvm.Cond.instanceMethod ⟨"MosaicCatalogue", "gridPieceOf", "(I)LMosaicCatalogue$Fragment;"⟩) ∈ js_ws := js_ws_of 688 (by decide +kernel) (by decide +kernel)
theorem kw_698 : (Jvm.Cond.methodLink "MosaicCatalogue" 214 ⟨"MosaicCatalogue$Board", "meets", "(LMosaicCatalogue$Fragment;IZ)Z"⟩) ∈ js_ws := js_ws_of 698 (by decide +kernel) (by decide +kernel)
theorem kw_706 : (Jvm.Cond.methodLink "MosaicCatalogue" 218 ⟨"MosaicCatalogue$Board", "countMeetings", "(LMosaicCatalogue$Fragment;Z)I"⟩) ∈ js_ws := js_ws_of 706 (by decide +kernel) (by decide +kernel)
theorem kw_714 : (Jvm.Cond.methodLink "MosaicCatalogue" 256 ⟨"MosaicCatalogue", "groupMask", "(I)J"⟩) ∈ js_ws := js_ws_of 714 (by decide +kernel) (by decide +kernel)
theorem kw_715 : (Jvm.Cond.instanceMethod ⟨"MosaicCatalogue", "groupMask", "(I)J"⟩) ∈ js_ws := js_ws_of 715 (by decide +kernel) (by decide +kernel)
theorem kw_716 : (Jvm.Cond.selects "MosaicCatalogue" ⟨"MosaicCatalogue", "groupMask", "(I)J"⟩ ⟨"MosaicCatalogue", "groupMask", "(I)J"⟩) ∈ js_ws := js_ws_of 716 (by decide +kernel) (by decide +kernel)
theorem kw_718 : (Jvm.Cond.methodLink "MosaicCatalogue" 259 ⟨"MosaicCatalogue$Groups", "search", "(LMosaicCatalogue$Board;LMosaicCatalogue$Fragment;)J"⟩) ∈ js_ws := js_ws_of 718 (by decide +kernel) (by decide +kernel)
theorem kw_719 : (Jvm.Cond.instanceMethod ⟨"MosaicCatalogue$Groups", "search", "(LMosaicCatalogue$Board;LMosaicCatalogue$Fragment;)J"⟩) ∈ js_ws := js_ws_of 719 (by decide +kernel) (by decide +kernel)
theorem kw_720 : (Jvm.Cond.selects "MosaicCatalogue$Groups" ⟨"MosaicCatalogue$Groups", "search", "(LMosaicCatalogue$Board;LMosaicCatalogue$Fragment;)J"⟩ ⟨"MosaicCatalogue$Groups", "search", "(LMosaicCatalogue$Board;LMosaicCatalogue$Fragment;)J"⟩) ∈ js_ws := js_ws_of 720 (by decide +kernel) (by decide +kernel)
theorem kw_723 : (Jvm.Cond.static ⟨"MosaicCatalogue", "bit", "(I)J"⟩) ∈ js_ws := js_ws_of 723 (by decide +kernel) (by decide +kernel)
theorem kw_725 : (Jvm.Cond.methodLink "MosaicCatalogue$Groups" 29 ⟨"MosaicCatalogue$Board", "neighbour", "(II)LMosaicCatalogue$Fragment;"⟩) ∈ js_ws := js_ws_of 725 (by decide +kernel) (by decide +kernel)
theorem kw_726 : (Jvm.Cond.methodLink "MosaicCatalogue$Groups" 35 ⟨"MosaicCatalogue$Board", "meets", "(LMosaicCatalogue$Fragment;IZ)Z"⟩) ∈ js_ws := js_ws_of 726 (by decide +kernel) (by decide +kernel)
theorem kw_727 : (Jvm.Cond.methodLink "MosaicCatalogue" 205 ⟨"java/lang/Long", "bitCount", "(J)I"⟩) ∈ js_ws := js_ws_of 727 (by decide +kernel) (by decide +kernel)
theorem kw_728 : (Jvm.Cond.static ⟨"java/lang/Long", "bitCount", "(J)I"⟩) ∈ js_ws := js_ws_of 728 (by decide +kernel) (by decide +kernel)
theorem kw_730 : (Jvm.Cond.constantLong "java/lang/Long" 314 6148914691236517205) ∈ js_ws := js_ws_of 730 (by decide +kernel) (by decide +kernel)
theorem kw_731 : (Jvm.Cond.constantLong "java/lang/Long" 316 3689348814741910323) ∈ js_ws := js_ws_of 731 (by decide +kernel) (by decide +kernel)
theorem kw_732 : (Jvm.Cond.constantLong "java/lang/Long" 318 1085102592571150095) ∈ js_ws := js_ws_of 732 (by decide +kernel) (by decide +kernel)
theorem kw_754 : (Jvm.Cond.methodLink "MosaicCatalogue" 76 ⟨"MosaicCatalogue$Board", "countOnGrid", "()I"⟩) ∈ js_ws := js_ws_of 754 (by decide +kernel) (by decide +kernel)
theorem kw_755 : (Jvm.Cond.instanceMethod ⟨"MosaicCatalogue$Board", "countOnGrid", "()I"⟩) ∈ js_ws := js_ws_of 755 (by decide +kernel) (by decide +kernel)
theorem kw_756 : (Jvm.Cond.selects "MosaicCatalogue$Board" ⟨"MosaicCatalogue$Board", "countOnGrid", "()I"⟩ ⟨"MosaicCatalogue$Board", "countOnGrid", "()I"⟩) ∈ js_ws := js_ws_of 756 (by decide +kernel) (by decide +kernel)
theorem kw_762 : (Jvm.Cond.methodLink "MosaicCatalogue" 130 ⟨"java/lang/Integer", "bitCount", "(I)I"⟩) ∈ js_ws := js_ws_of 762 (by decide +kernel) (by decide +kernel)
theorem kw_763 : (Jvm.Cond.static ⟨"java/lang/Integer", "bitCount", "(I)I"⟩) ∈ js_ws := js_ws_of 763 (by decide +kernel) (by decide +kernel)
theorem kw_765 : (Jvm.Cond.constant "java/lang/Integer" 265 1431655765) ∈ js_ws := js_ws_of 765 (by decide +kernel) (by decide +kernel)
theorem kw_766 : (Jvm.Cond.constant "java/lang/Integer" 266 858993459) ∈ js_ws := js_ws_of 766 (by decide +kernel) (by decide +kernel)
theorem kw_767 : (Jvm.Cond.constant "java/lang/Integer" 267 252645135) ∈ js_ws := js_ws_of 767 (by decide +kernel) (by decide +kernel)
theorem kw_798 : (Jvm.Cond.methodLink "MosaicCatalogue" 222 ⟨"MosaicCatalogue$Board", "countNeighbours", "(I)I"⟩) ∈ js_ws := js_ws_of 798 (by decide +kernel) (by decide +kernel)
theorem kw_806 : (Jvm.Cond.methodLink "MosaicCatalogue" 179 ⟨"MosaicCatalogue", "isColour", "(C)Z"⟩) ∈ js_ws := js_ws_of 806 (by decide +kernel) (by decide +kernel)
theorem kw_808 : (Jvm.Cond.methodLink "MosaicCatalogue" 175 ⟨"MosaicCatalogue", "bit", "(I)J"⟩) ∈ js_ws := js_ws_of 808 (by decide +kernel) (by decide +kernel)
theorem kw_813 : (Jvm.Cond.instanceMethod ⟨"MosaicCatalogue", "joinFraction", "()F"⟩) ∈ js_ws := js_ws_of 813 (by decide +kernel) (by decide +kernel)
theorem kw_814 : (Jvm.Cond.selects "MosaicCatalogue" ⟨"MosaicCatalogue", "joinFraction", "()F"⟩ ⟨"MosaicCatalogue", "joinFraction", "()F"⟩) ∈ js_ws := js_ws_of 814 (by decide +kernel) (by decide +kernel)
theorem kw_816 : (Jvm.Cond.methodLink "MosaicCatalogue" 210 ⟨"MosaicCatalogue$Board", "countPairs", "(Z)I"⟩) ∈ js_ws := js_ws_of 816 (by decide +kernel) (by decide +kernel)
theorem kw_817 : (Jvm.Cond.instanceMethod ⟨"MosaicCatalogue$Board", "countPairs", "(Z)I"⟩) ∈ js_ws := js_ws_of 817 (by decide +kernel) (by decide +kernel)
theorem kw_818 : (Jvm.Cond.selects "MosaicCatalogue$Board" ⟨"MosaicCatalogue$Board", "countPairs", "(Z)I"⟩ ⟨"MosaicCatalogue$Board", "countPairs", "(Z)I"⟩) ∈ js_ws := js_ws_of 818 (by decide +kernel) (by decide +kernel)
theorem kw_820 : (Jvm.Cond.classLink "MosaicCatalogue" 268 "java/lang/ArithmeticException") ∈ js_ws := js_ws_of 820 (by decide +kernel) (by decide +kernel)
theorem kw_841 : (Jvm.Cond.methodLink "MosaicCatalogue" 273 ⟨"MosaicCatalogue", "joinFraction", "()F"⟩) ∈ js_ws := js_ws_of 841 (by decide +kernel) (by decide +kernel)
theorem kw_842 : (Jvm.Cond.methodLink "MosaicCatalogue" 277 ⟨"MosaicCatalogue", "bitsOfFraction", "(F)I"⟩) ∈ js_ws := js_ws_of 842 (by decide +kernel) (by decide +kernel)
theorem kw_843 : (Jvm.Cond.static ⟨"MosaicCatalogue", "bitsOfFraction", "(F)I"⟩) ∈ js_ws := js_ws_of 843 (by decide +kernel) (by decide +kernel)
theorem kw_845 : (Jvm.Cond.constantFloat "MosaicCatalogue" 413 1258291200) ∈ js_ws := js_ws_of 845 (by decide +kernel) (by decide +kernel)
theorem kw_849 : (Jvm.Cond.methodLink "java/lang/Float" 59 ⟨"java/lang/Float", "isNaN", "(F)Z"⟩) ∈ js_ws := js_ws_of 849 (by decide +kernel) (by decide +kernel)
theorem kw_850 : (Jvm.Cond.static ⟨"java/lang/Float", "isNaN", "(F)Z"⟩) ∈ js_ws := js_ws_of 850 (by decide +kernel) (by decide +kernel)
theorem kw_852 : (Jvm.Cond.methodLink "java/lang/Float" 74 ⟨"java/lang/Float", "floatToRawIntBits", "(F)I"⟩) ∈ js_ws := js_ws_of 852 (by decide +kernel) (by decide +kernel)
theorem kw_853 : (Jvm.Cond.static ⟨"java/lang/Float", "floatToRawIntBits", "(F)I"⟩) ∈ js_ws := js_ws_of 853 (by decide +kernel) (by decide +kernel)
theorem kw_854 : (Jvm.Cond.native ⟨"java/lang/Float", "floatToRawIntBits", "(F)I"⟩) ∈ js_ws := js_ws_of 854 (by decide +kernel) (by decide +kernel)
theorem kw_855 : (Jvm.Cond.constant "java/lang/Float" 77 2143289344) ∈ js_ws := js_ws_of 855 (by decide +kernel) (by decide +kernel)
theorem kw_862 : (Jvm.Cond.instanceMethod ⟨"MosaicCatalogue", "placedMask", "()J"⟩) ∈ js_ws := js_ws_of 862 (by decide +kernel) (by decide +kernel)
theorem kw_863 : (Jvm.Cond.selects "MosaicCatalogue" ⟨"MosaicCatalogue", "placedMask", "()J"⟩ ⟨"MosaicCatalogue", "placedMask", "()J"⟩) ∈ js_ws := js_ws_of 863 (by decide +kernel) (by decide +kernel)
theorem kw_866 : (Jvm.Cond.instanceMethod ⟨"MosaicCatalogue", "gapMask", "()J"⟩) ∈ js_ws := js_ws_of 866 (by decide +kernel) (by decide +kernel)
theorem kw_867 : (Jvm.Cond.selects "MosaicCatalogue" ⟨"MosaicCatalogue", "gapMask", "()J"⟩ ⟨"MosaicCatalogue", "gapMask", "()J"⟩) ∈ js_ws := js_ws_of 867 (by decide +kernel) (by decide +kernel)
theorem kw_870 : (Jvm.Cond.instanceMethod ⟨"MosaicCatalogue", "gapMaskByShifts", "()J"⟩) ∈ js_ws := js_ws_of 870 (by decide +kernel) (by decide +kernel)
theorem kw_871 : (Jvm.Cond.selects "MosaicCatalogue" ⟨"MosaicCatalogue", "gapMaskByShifts", "()J"⟩ ⟨"MosaicCatalogue", "gapMaskByShifts", "()J"⟩) ∈ js_ws := js_ws_of 871 (by decide +kernel) (by decide +kernel)
theorem kw_873 : (Jvm.Cond.methodLink "MosaicCatalogue" 192 ⟨"MosaicCatalogue", "placedMask", "()J"⟩) ∈ js_ws := js_ws_of 873 (by decide +kernel) (by decide +kernel)
theorem kw_874 : (Jvm.Cond.constantLong "MosaicCatalogue" 196 9187201950435737471) ∈ js_ws := js_ws_of 874 (by decide +kernel) (by decide +kernel)
theorem kw_875 : (Jvm.Cond.constantLong "MosaicCatalogue" 198 (-72340172838076674)) ∈ js_ws := js_ws_of 875 (by decide +kernel) (by decide +kernel)
theorem kw_876 : (Jvm.Cond.constantLong "MosaicCatalogue" 200 (-1)) ∈ js_ws := js_ws_of 876 (by decide +kernel) (by decide +kernel)
theorem kw_881 : (Jvm.Cond.methodLink "MosaicCatalogue" 202 ⟨"MosaicCatalogue", "gapMask", "()J"⟩) ∈ js_ws := js_ws_of 881 (by decide +kernel) (by decide +kernel)
theorem kw_918 : (Jvm.Cond.methodLink "MosaicCatalogue" 231 ⟨"MosaicCatalogue", "checkInTray", "(LMosaicCatalogue$Fragment;)V"⟩) ∈ js_ws := js_ws_of 918 (by decide +kernel) (by decide +kernel)
theorem kw_919 : (Jvm.Cond.static ⟨"MosaicCatalogue", "checkInTray", "(LMosaicCatalogue$Fragment;)V"⟩) ∈ js_ws := js_ws_of 919 (by decide +kernel) (by decide +kernel)
theorem kw_922 : (Jvm.Cond.methodLink "MosaicCatalogue" 242 ⟨"MosaicCatalogue$Guesses", "weightOf", "(LMosaicCatalogue$Fragment;I)I"⟩) ∈ js_ws := js_ws_of 922 (by decide +kernel) (by decide +kernel)
theorem kw_942 : (Jvm.Cond.methodLink "MosaicCatalogue" 246 ⟨"MosaicCatalogue$Guesses", "turnFor", "(LMosaicCatalogue$Fragment;)I"⟩) ∈ js_ws := js_ws_of 942 (by decide +kernel) (by decide +kernel)
theorem kw_955 : (Jvm.Cond.instanceMethod ⟨"MosaicCatalogue", "groupCount", "()I"⟩) ∈ js_ws := js_ws_of 955 (by decide +kernel) (by decide +kernel)
theorem kw_956 : (Jvm.Cond.selects "MosaicCatalogue" ⟨"MosaicCatalogue", "groupCount", "()I"⟩ ⟨"MosaicCatalogue", "groupCount", "()I"⟩) ∈ js_ws := js_ws_of 956 (by decide +kernel) (by decide +kernel)
theorem kw_958 : (Jvm.Cond.methodLink "MosaicCatalogue" 250 ⟨"MosaicCatalogue$Groups", "countBySearch", "(LMosaicCatalogue$Board;)I"⟩) ∈ js_ws := js_ws_of 958 (by decide +kernel) (by decide +kernel)
theorem kw_959 : (Jvm.Cond.instanceMethod ⟨"MosaicCatalogue$Groups", "countBySearch", "(LMosaicCatalogue$Board;)I"⟩) ∈ js_ws := js_ws_of 959 (by decide +kernel) (by decide +kernel)
theorem kw_960 : (Jvm.Cond.selects "MosaicCatalogue$Groups" ⟨"MosaicCatalogue$Groups", "countBySearch", "(LMosaicCatalogue$Board;)I"⟩ ⟨"MosaicCatalogue$Groups", "countBySearch", "(LMosaicCatalogue$Board;)I"⟩) ∈ js_ws := js_ws_of 960 (by decide +kernel) (by decide +kernel)
theorem kw_962 : (Jvm.Cond.methodLink "MosaicCatalogue$Groups" 45 ⟨"MosaicCatalogue$Fragment", "isOnGrid", "()Z"⟩) ∈ js_ws := js_ws_of 962 (by decide +kernel) (by decide +kernel)
theorem kw_963 : (Jvm.Cond.methodLink "MosaicCatalogue$Groups" 49 ⟨"MosaicCatalogue$Groups", "search", "(LMosaicCatalogue$Board;LMosaicCatalogue$Fragment;)J"⟩) ∈ js_ws := js_ws_of 963 (by decide +kernel) (by decide +kernel)
theorem kw_965 : (Jvm.Cond.instanceMethod ⟨"MosaicCatalogue", "groupCountByUnions", "()I"⟩) ∈ js_ws := js_ws_of 965 (by decide +kernel) (by decide +kernel)
theorem kw_966 : (Jvm.Cond.selects "MosaicCatalogue" ⟨"MosaicCatalogue", "groupCountByUnions", "()I"⟩ ⟨"MosaicCatalogue", "groupCountByUnions", "()I"⟩) ∈ js_ws := js_ws_of 966 (by decide +kernel) (by decide +kernel)
theorem kw_968 : (Jvm.Cond.methodLink "MosaicCatalogue" 253 ⟨"MosaicCatalogue$Groups", "countByUnions", "(LMosaicCatalogue$Board;)I"⟩) ∈ js_ws := js_ws_of 968 (by decide +kernel) (by decide +kernel)
theorem kw_969 : (Jvm.Cond.instanceMethod ⟨"MosaicCatalogue$Groups", "countByUnions", "(LMosaicCatalogue$Board;)I"⟩) ∈ js_ws := js_ws_of 969 (by decide +kernel) (by decide +kernel)
theorem kw_970 : (Jvm.Cond.selects "MosaicCatalogue$Groups" ⟨"MosaicCatalogue$Groups", "countByUnions", "(LMosaicCatalogue$Board;)I"⟩ ⟨"MosaicCatalogue$Groups", "countByUnions", "(LMosaicCatalogue$Board;)I"⟩) ∈ js_ws := js_ws_of 970 (by decide +kernel) (by decide +kernel)
theorem kw_972 : (Jvm.Cond.methodLink "MosaicCatalogue$Groups" 65 ⟨"MosaicCatalogue$Board", "countOnGrid", "()I"⟩) ∈ js_ws := js_ws_of 972 (by decide +kernel) (by decide +kernel)
theorem kw_973 : (Jvm.Cond.methodLink "MosaicCatalogue$Groups" 69 ⟨"MosaicCatalogue$Groups", "unite", "(LMosaicCatalogue$Board;LMosaicCatalogue$Fragment;I)I"⟩) ∈ js_ws := js_ws_of 973 (by decide +kernel) (by decide +kernel)
theorem kw_975 : (Jvm.Cond.instanceMethod ⟨"MosaicCatalogue$Groups", "unite", "(LMosaicCatalogue$Board;LMosaicCatalogue$Fragment;I)I"⟩) ∈ js_ws := js_ws_of 975 (by decide +kernel) (by decide +kernel)
theorem kw_977 : (Jvm.Cond.methodLink "MosaicCatalogue$Groups" 73 ⟨"MosaicCatalogue$Groups", "rootOf", "(I)I"⟩) ∈ js_ws := js_ws_of 977 (by decide +kernel) (by decide +kernel)
theorem kw_979 : (Jvm.Cond.instanceMethod ⟨"MosaicCatalogue$Groups", "rootOf", "(I)I"⟩) ∈ js_ws := js_ws_of 979 (by decide +kernel) (by decide +kernel)
theorem kw_988 : (Jvm.Cond.methodLink "MosaicCatalogue" 263 ⟨"MosaicCatalogue$Groups", "sizeOfLargest", "(LMosaicCatalogue$Board;)I"⟩) ∈ js_ws := js_ws_of 988 (by decide +kernel) (by decide +kernel)
theorem kw_989 : (Jvm.Cond.instanceMethod ⟨"MosaicCatalogue$Groups", "sizeOfLargest", "(LMosaicCatalogue$Board;)I"⟩) ∈ js_ws := js_ws_of 989 (by decide +kernel) (by decide +kernel)
theorem kw_990 : (Jvm.Cond.selects "MosaicCatalogue$Groups" ⟨"MosaicCatalogue$Groups", "sizeOfLargest", "(LMosaicCatalogue$Board;)I"⟩ ⟨"MosaicCatalogue$Groups", "sizeOfLargest", "(LMosaicCatalogue$Board;)I"⟩) ∈ js_ws := js_ws_of 990 (by decide +kernel) (by decide +kernel)
theorem kw_992 : (Jvm.Cond.methodLink "MosaicCatalogue$Groups" 53 ⟨"java/lang/Long", "bitCount", "(J)I"⟩) ∈ js_ws := js_ws_of 992 (by decide +kernel) (by decide +kernel)
theorem kw_993 : (Jvm.Cond.methodLink "MosaicCatalogue$Groups" 59 ⟨"java/lang/Math", "max", "(II)I"⟩) ∈ js_ws := js_ws_of 993 (by decide +kernel) (by decide +kernel)
theorem kw_998 : (Jvm.Cond.methodLink "MosaicCatalogue" 281 ⟨"MosaicCatalogue", "gapMaskByShifts", "()J"⟩) ∈ js_ws := js_ws_of 998 (by decide +kernel) (by decide +kernel)
theorem kw_999 : (Jvm.Cond.methodLink "MosaicCatalogue" 284 ⟨"MosaicCatalogue", "groupCount", "()I"⟩) ∈ js_ws := js_ws_of 999 (by decide +kernel) (by decide +kernel)
theorem kw_1000 : (Jvm.Cond.methodLink "MosaicCatalogue" 287 ⟨"MosaicCatalogue", "groupCountByUnions", "()I"⟩) ∈ js_ws := js_ws_of 1000 (by decide +kernel) (by decide +kernel)
theorem kw_1010 : (Jvm.Cond.methodLink "java/lang/StringBuilder" 1 ⟨"java/lang/AbstractStringBuilder", "<init>", "(I)V"⟩) ∈ js_ws := js_ws_of 1010 (by decide +kernel) (by decide +kernel)
theorem kw_1011 : (Jvm.Cond.instanceMethod ⟨"java/lang/AbstractStringBuilder", "<init>", "(I)V"⟩) ∈ js_ws := js_ws_of 1011 (by decide +kernel) (by decide +kernel)
theorem kw_1013 : (Jvm.Cond.methodLink "java/lang/AbstractStringBuilder" 3 ⟨"java/lang/Object", "<init>", "()V"⟩) ∈ js_ws := js_ws_of 1013 (by decide +kernel) (by decide +kernel)
theorem kw_1014 : (Jvm.Cond.fieldLink "java/lang/AbstractStringBuilder" 18 "java/lang/String" "COMPACT_STRINGS" "Z") ∈ js_ws := js_ws_of 1014 (by decide +kernel) (by decide +kernel)
theorem kw_1023 : (Jvm.Cond.fieldLink "java/lang/AbstractStringBuilder" 15 "java/lang/AbstractStringBuilder" "value" "[B") ∈ js_ws := js_ws_of 1023 (by decide +kernel) (by decide +kernel)
theorem kw_1024 : (Jvm.Cond.fieldLink "java/lang/AbstractStringBuilder" 22 "java/lang/AbstractStringBuilder" "coder" "B") ∈ js_ws := js_ws_of 1024 (by decide +kernel) (by decide +kernel)
theorem kw_1025 : (Jvm.Cond.fieldLink "java/lang/String" 1048 "java/lang/AbstractStringBuilder" "maybeLatin1" "Z") ∈ js_ws := js_ws_of 1025 (by decide +kernel) (by decide +kernel)
theorem kw_1026 : (Jvm.Cond.fieldLink "java/lang/AbstractStringBuilder" 79 "java/lang/AbstractStringBuilder" "count" "I") ∈ js_ws := js_ws_of 1026 (by decide +kernel) (by decide +kernel)
theorem kw_1035 : (Jvm.Cond.superclass "java/lang/StringBuilder" "java/lang/AbstractStringBuilder") ∈ js_ws := js_ws_of 1035 (by decide +kernel) (by decide +kernel)
theorem kw_1040 : (Jvm.Cond.methodLink "java/lang/StringBuilder" 29 ⟨"java/lang/AbstractStringBuilder", "append", "(Ljava/lang/String;)Ljava/lang/AbstractStringBuilder;"⟩) ∈ js_ws := js_ws_of 1040 (by decide +kernel) (by decide +kernel)
theorem kw_1041 : (Jvm.Cond.instanceMethod ⟨"java/lang/AbstractStringBuilder", "append", "(Ljava/lang/String;)Ljava/lang/AbstractStringBuilder;"⟩) ∈ js_ws := js_ws_of 1041 (by decide +kernel) (by decide +kernel)
theorem kw_1047 : (Jvm.Cond.methodLink "java/lang/AbstractStringBuilder" 100 ⟨"java/lang/AbstractStringBuilder", "ensureCapacityInternal", "(I)V"⟩) ∈ js_ws := js_ws_of 1047 (by decide +kernel) (by decide +kernel)
theorem kw_1049 : (Jvm.Cond.instanceMethod ⟨"java/lang/AbstractStringBuilder", "ensureCapacityInternal", "(I)V"⟩) ∈ js_ws := js_ws_of 1049 (by decide +kernel) (by decide +kernel)
theorem kw_1051 : (Jvm.Cond.methodLink "java/lang/AbstractStringBuilder" 104 ⟨"java/lang/AbstractStringBuilder", "newCapacity", "(I)I"⟩) ∈ js_ws := js_ws_of 1051 (by decide +kernel) (by decide +kernel)
theorem kw_1053 : (Jvm.Cond.instanceMethod ⟨"java/lang/AbstractStringBuilder", "newCapacity", "(I)I"⟩) ∈ js_ws := js_ws_of 1053 (by decide +kernel) (by decide +kernel)
theorem kw_1055 : (Jvm.Cond.methodLink "java/lang/AbstractStringBuilder" 114 ⟨"jdk/internal/util/ArraysSupport", "newLength", "(III)I"⟩) ∈ js_ws := js_ws_of 1055 (by decide +kernel) (by decide +kernel)
theorem kw_1056 : (Jvm.Cond.static ⟨"jdk/internal/util/ArraysSupport", "newLength", "(III)I"⟩) ∈ js_ws := js_ws_of 1056 (by decide +kernel) (by decide +kernel)
theorem kw_1058 : (Jvm.Cond.methodLink "jdk/internal/util/ArraysSupport" 194 ⟨"java/lang/Math", "max", "(II)I"⟩) ∈ js_ws := js_ws_of 1058 (by decide +kernel) (by decide +kernel)
theorem kw_1059 : (Jvm.Cond.constant "jdk/internal/util/ArraysSupport" 200 2147483639) ∈ js_ws := js_ws_of 1059 (by decide +kernel) (by decide +kernel)
theorem kw_1063 : (Jvm.Cond.constant "java/lang/AbstractStringBuilder" 39 2147483647) ∈ js_ws := js_ws_of 1063 (by decide +kernel) (by decide +kernel)
theorem kw_1064 : (Jvm.Cond.methodLink "java/lang/AbstractStringBuilder" 108 ⟨"java/util/Arrays", "copyOf", "([BI)[B"⟩) ∈ js_ws := js_ws_of 1064 (by decide +kernel) (by decide +kernel)
theorem kw_1065 : (Jvm.Cond.static ⟨"java/util/Arrays", "copyOf", "([BI)[B"⟩) ∈ js_ws := js_ws_of 1065 (by decide +kernel) (by decide +kernel)
theorem kw_1067 : (Jvm.Cond.methodLink "java/util/Arrays" 310 ⟨"[B", "clone", "()Ljava/lang/Object;"⟩) ∈ js_ws := js_ws_of 1067 (by decide +kernel) (by decide +kernel)
theorem kw_1068 : (Jvm.Cond.sameMethod "[B" "java/lang/Object" "clone" "()Ljava/lang/Object;") ∈ js_ws := js_ws_of 1068 (by decide +kernel) (by decide +kernel)
theorem kw_1069 : (Jvm.Cond.native ⟨"java/lang/Object", "clone", "()Ljava/lang/Object;"⟩) ∈ js_ws := js_ws_of 1069 (by decide +kernel) (by decide +kernel)
theorem kw_1070 : (Jvm.Cond.instanceMethod ⟨"java/lang/Object", "clone", "()Ljava/lang/Object;"⟩) ∈ js_ws := js_ws_of 1070 (by decide +kernel) (by decide +kernel)
theorem kw_1071 : (Jvm.Cond.selects "[B" ⟨"[B", "clone", "()Ljava/lang/Object;"⟩ ⟨"java/lang/Object", "clone", "()Ljava/lang/Object;"⟩) ∈ js_ws := js_ws_of 1071 (by decide +kernel) (by decide +kernel)
theorem kw_1073 : (Jvm.Cond.classLink "java/util/Arrays" 311 "[B") ∈ js_ws := js_ws_of 1073 (by decide +kernel) (by decide +kernel)
theorem kw_1074 : (Jvm.Cond.methodLink "java/util/Arrays" 304 ⟨"java/lang/Math", "min", "(II)I"⟩) ∈ js_ws := js_ws_of 1074 (by decide +kernel) (by decide +kernel)
theorem kw_1075 : (Jvm.Cond.methodLink "java/util/Arrays" 150 ⟨"java/lang/System", "arraycopy", "(Ljava/lang/Object;ILjava/lang/Object;II)V"⟩) ∈ js_ws := js_ws_of 1075 (by decide +kernel) (by decide +kernel)
theorem kw_1076 : (Jvm.Cond.methodLink "java/lang/AbstractStringBuilder" 83 ⟨"java/lang/AbstractStringBuilder", "isLatin1", "()Z"⟩) ∈ js_ws := js_ws_of 1076 (by decide +kernel) (by decide +kernel)
theorem kw_1077 : (Jvm.Cond.instanceMethod ⟨"java/lang/AbstractStringBuilder", "isLatin1", "()Z"⟩) ∈ js_ws := js_ws_of 1077 (by decide +kernel) (by decide +kernel)
theorem kw_1078 : (Jvm.Cond.sameMethod "java/lang/AbstractStringBuilder" "java/lang/AbstractStringBuilder" "isLatin1" "()Z") ∈ js_ws := js_ws_of 1078 (by decide +kernel) (by decide +kernel)
theorem kw_1079 : (Jvm.Cond.selects "java/lang/StringBuilder" ⟨"java/lang/AbstractStringBuilder", "isLatin1", "()Z"⟩ ⟨"java/lang/AbstractStringBuilder", "isLatin1", "()Z"⟩) ∈ js_ws := js_ws_of 1079 (by decide +kernel) (by decide +kernel)
theorem kw_1093 : (Jvm.Cond.fieldLink "java/lang/String" 1053 "jdk/internal/util/Preconditions" "SIOOBE_FORMATTER" "Ljava/util/function/BiFunction;") ∈ js_ws := js_ws_of 1093 (by decide +kernel) (by decide +kernel)
theorem kw_1107 : (Jvm.Cond.methodLink "java/lang/AbstractStringBuilder" 32 ⟨"java/lang/String", "length", "()I"⟩) ∈ js_ws := js_ws_of 1107 (by decide +kernel) (by decide +kernel)
theorem kw_1108 : (Jvm.Cond.instanceMethod ⟨"java/lang/String", "length", "()I"⟩) ∈ js_ws := js_ws_of 1108 (by decide +kernel) (by decide +kernel)
theorem kw_1109 : (Jvm.Cond.selects "java/lang/String" ⟨"java/lang/String", "length", "()I"⟩ ⟨"java/lang/String", "length", "()I"⟩) ∈ js_ws := js_ws_of 1109 (by decide +kernel) (by decide +kernel)
theorem kw_1111 : (Jvm.Cond.methodLink "java/lang/String" 335 ⟨"java/lang/String", "coder", "()B"⟩) ∈ js_ws := js_ws_of 1111 (by decide +kernel) (by decide +kernel)
theorem kw_1112 : (Jvm.Cond.instanceMethod ⟨"java/lang/String", "coder", "()B"⟩) ∈ js_ws := js_ws_of 1112 (by decide +kernel) (by decide +kernel)
theorem kw_1113 : (Jvm.Cond.selects "java/lang/String" ⟨"java/lang/String", "coder", "()B"⟩ ⟨"java/lang/String", "coder", "()B"⟩) ∈ js_ws := js_ws_of 1113 (by decide +kernel) (by decide +kernel)
theorem kw_1115 : (Jvm.Cond.fieldLink "java/lang/String" 38 "java/lang/String" "COMPACT_STRINGS" "Z") ∈ js_ws := js_ws_of 1115 (by decide +kernel) (by decide +kernel)
theorem kw_1116 : (Jvm.Cond.methodLink "java/lang/AbstractStringBuilder" 208 ⟨"java/lang/AbstractStringBuilder", "putStringAt", "(ILjava/lang/String;)V"⟩) ∈ js_ws := js_ws_of 1116 (by decide +kernel) (by decide +kernel)
theorem kw_1118 : (Jvm.Cond.instanceMethod ⟨"java/lang/AbstractStringBuilder", "putStringAt", "(ILjava/lang/String;)V"⟩) ∈ js_ws := js_ws_of 1118 (by decide +kernel) (by decide +kernel)
theorem kw_1120 : (Jvm.Cond.methodLink "java/lang/AbstractStringBuilder" 397 ⟨"java/lang/AbstractStringBuilder", "inflateIfNeededFor", "(Ljava/lang/String;)V"⟩) ∈ js_ws := js_ws_of 1120 (by decide +kernel) (by decide +kernel)
theorem kw_1122 : (Jvm.Cond.instanceMethod ⟨"java/lang/AbstractStringBuilder", "inflateIfNeededFor", "(Ljava/lang/String;)V"⟩) ∈ js_ws := js_ws_of 1122 (by decide +kernel) (by decide +kernel)
theorem kw_1124 : (Jvm.Cond.methodLink "java/lang/AbstractStringBuilder" 40 ⟨"java/lang/String", "coder", "()B"⟩) ∈ js_ws := js_ws_of 1124 (by decide +kernel) (by decide +kernel)
theorem kw_1144 : (Jvm.Cond.methodLink "java/lang/AbstractStringBuilder" 399 ⟨"java/lang/String", "getBytes", "([BIB)V"⟩) ∈ js_ws := js_ws_of 1144 (by decide +kernel) (by decide +kernel)
theorem kw_1145 : (Jvm.Cond.instanceMethod ⟨"java/lang/String", "getBytes", "([BIB)V"⟩) ∈ js_ws := js_ws_of 1145 (by decide +kernel) (by decide +kernel)
theorem kw_1146 : (Jvm.Cond.selects "java/lang/String" ⟨"java/lang/String", "getBytes", "([BIB)V"⟩ ⟨"java/lang/String", "getBytes", "([BIB)V"⟩) ∈ js_ws := js_ws_of 1146 (by decide +kernel) (by decide +kernel)
theorem kw_1148 : (Jvm.Cond.methodLink "java/lang/String" 212 ⟨"java/lang/System", "arraycopy", "(Ljava/lang/Object;ILjava/lang/Object;II)V"⟩) ∈ js_ws := js_ws_of 1148 (by decide +kernel) (by decide +kernel)
theorem kw_1154 : (Jvm.Cond.methodLink "java/lang/StringBuilder" 50 ⟨"java/lang/AbstractStringBuilder", "append", "(C)Ljava/lang/AbstractStringBuilder;"⟩) ∈ js_ws := js_ws_of 1154 (by decide +kernel) (by decide +kernel)
theorem kw_1155 : (Jvm.Cond.instanceMethod ⟨"java/lang/AbstractStringBuilder", "append", "(C)Ljava/lang/AbstractStringBuilder;"⟩) ∈ js_ws := js_ws_of 1155 (by decide +kernel) (by decide +kernel)
theorem kw_1157 : (Jvm.Cond.methodLink "java/lang/AbstractStringBuilder" 191 ⟨"java/lang/StringLatin1", "canEncode", "(C)Z"⟩) ∈ js_ws := js_ws_of 1157 (by decide +kernel) (by decide +kernel)
theorem kw_1158 : (Jvm.Cond.static ⟨"java/lang/StringLatin1", "canEncode", "(C)Z"⟩) ∈ js_ws := js_ws_of 1158 (by decide +kernel) (by decide +kernel)
theorem kw_1167 : (Jvm.Cond.static ⟨"java/lang/String", "checkIndex", "(II)V"⟩) ∈ js_ws := js_ws_of 1167 (by decide +kernel) (by decide +kernel)
theorem kw_1169 : (Jvm.Cond.methodLink "java/lang/String" 1059 ⟨"jdk/internal/util/Preconditions", "checkIndex", "(IILjava/util/function/BiFunction;)I"⟩) ∈ js_ws := js_ws_of 1169 (by decide +kernel) (by decide +kernel)
theorem kw_1170 : (Jvm.Cond.static ⟨"jdk/internal/util/Preconditions", "checkIndex", "(IILjava/util/function/BiFunction;)I"⟩) ∈ js_ws := js_ws_of 1170 (by decide +kernel) (by decide +kernel)
theorem kw_1176 : (Jvm.Cond.classLink "java/lang/StringBuilder" 18 "java/lang/String") ∈ js_ws := js_ws_of 1176 (by decide +kernel) (by decide +kernel)
theorem kw_1177 : (Jvm.Cond.methodLink "java/lang/StringBuilder" 137 ⟨"java/lang/String", "<init>", "(Ljava/lang/StringBuilder;)V"⟩) ∈ js_ws := js_ws_of 1177 (by decide +kernel) (by decide +kernel)
theorem kw_1178 : (Jvm.Cond.instanceMethod ⟨"java/lang/String", "<init>", "(Ljava/lang/StringBuilder;)V"⟩) ∈ js_ws := js_ws_of 1178 (by decide +kernel) (by decide +kernel)
theorem kw_1180 : (Jvm.Cond.methodLink "java/lang/String" 489 ⟨"java/lang/String", "<init>", "(Ljava/lang/AbstractStringBuilder;Ljava/lang/Void;)V"⟩) ∈ js_ws := js_ws_of 1180 (by decide +kernel) (by decide +kernel)
theorem kw_1181 : (Jvm.Cond.instanceMethod ⟨"java/lang/String", "<init>", "(Ljava/lang/AbstractStringBuilder;Ljava/lang/Void;)V"⟩) ∈ js_ws := js_ws_of 1181 (by decide +kernel) (by decide +kernel)
theorem kw_1183 : (Jvm.Cond.methodLink "java/lang/String" 1 ⟨"java/lang/Object", "<init>", "()V"⟩) ∈ js_ws := js_ws_of 1183 (by decide +kernel) (by decide +kernel)
theorem kw_1184 : (Jvm.Cond.methodLink "java/lang/String" 552 ⟨"java/lang/AbstractStringBuilder", "getValue", "()[B"⟩) ∈ js_ws := js_ws_of 1184 (by decide +kernel) (by decide +kernel)
theorem kw_1185 : (Jvm.Cond.instanceMethod ⟨"java/lang/AbstractStringBuilder", "getValue", "()[B"⟩) ∈ js_ws := js_ws_of 1185 (by decide +kernel) (by decide +kernel)
theorem kw_1186 : (Jvm.Cond.sameMethod "java/lang/AbstractStringBuilder" "java/lang/AbstractStringBuilder" "getValue" "()[B") ∈ js_ws := js_ws_of 1186 (by decide +kernel) (by decide +kernel)
theorem kw_1187 : (Jvm.Cond.selects "java/lang/StringBuilder" ⟨"java/lang/AbstractStringBuilder", "getValue", "()[B"⟩ ⟨"java/lang/AbstractStringBuilder", "getValue", "()[B"⟩) ∈ js_ws := js_ws_of 1187 (by decide +kernel) (by decide +kernel)
theorem kw_1189 : (Jvm.Cond.methodLink "java/lang/String" 549 ⟨"java/lang/AbstractStringBuilder", "length", "()I"⟩) ∈ js_ws := js_ws_of 1189 (by decide +kernel) (by decide +kernel)
theorem kw_1190 : (Jvm.Cond.instanceMethod ⟨"java/lang/AbstractStringBuilder", "length", "()I"⟩) ∈ js_ws := js_ws_of 1190 (by decide +kernel) (by decide +kernel)
theorem kw_1191 : (Jvm.Cond.sameMethod "java/lang/AbstractStringBuilder" "java/lang/AbstractStringBuilder" "length" "()I") ∈ js_ws := js_ws_of 1191 (by decide +kernel) (by decide +kernel)
theorem kw_1192 : (Jvm.Cond.selects "java/lang/StringBuilder" ⟨"java/lang/AbstractStringBuilder", "length", "()I"⟩ ⟨"java/lang/StringBuilder", "length", "()I"⟩) ∈ js_ws := js_ws_of 1192 (by decide +kernel) (by decide +kernel)
theorem kw_1193 : (Jvm.Cond.instanceMethod ⟨"java/lang/StringBuilder", "length", "()I"⟩) ∈ js_ws := js_ws_of 1193 (by decide +kernel) (by decide +kernel)
theorem kw_1195 : (Jvm.Cond.methodLink "java/lang/StringBuilder" 343 ⟨"java/lang/AbstractStringBuilder", "length", "()I"⟩) ∈ js_ws := js_ws_of 1195 (by decide +kernel) (by decide +kernel)
theorem kw_1196 : (Jvm.Cond.code ⟨"java/lang/AbstractStringBuilder", "length", "()I"⟩ prog_14_method_6_code 1 (some FieldType.int)) ∈ js_ws := js_ws_of 1196 (by decide +kernel) (by decide +kernel)
theorem kw_1197 : (Jvm.Cond.methodLink "java/lang/String" 1047 ⟨"java/lang/AbstractStringBuilder", "isLatin1", "()Z"⟩) ∈ js_ws := js_ws_of 1197 (by decide +kernel) (by decide +kernel)
theorem kw_1198 : (Jvm.Cond.methodLink "java/lang/String" 54 ⟨"java/util/Arrays", "copyOfRange", "([BII)[B"⟩) ∈ js_ws := js_ws_of 1198 (by decide +kernel) (by decide +kernel)
theorem kw_1199 : (Jvm.Cond.static ⟨"java/util/Arrays", "copyOfRange", "([BII)[B"⟩) ∈ js_ws := js_ws_of 1199 (by decide +kernel) (by decide +kernel)
theorem kw_1201 : (Jvm.Cond.methodLink "java/util/Arrays" 339 ⟨"java/util/Arrays", "copyOfRangeByte", "([BII)[B"⟩) ∈ js_ws := js_ws_of 1201 (by decide +kernel) (by decide +kernel)
theorem kw_1202 : (Jvm.Cond.static ⟨"java/util/Arrays", "copyOfRangeByte", "([BII)[B"⟩) ∈ js_ws := js_ws_of 1202 (by decide +kernel) (by decide +kernel)
theorem kw_1204 : (Jvm.Cond.methodLink "java/util/Arrays" 343 ⟨"java/util/Arrays", "checkLength", "(II)V"⟩) ∈ js_ws := js_ws_of 1204 (by decide +kernel) (by decide +kernel)
theorem kw_1205 : (Jvm.Cond.static ⟨"java/util/Arrays", "checkLength", "(II)V"⟩) ∈ js_ws := js_ws_of 1205 (by decide +kernel) (by decide +kernel)
theorem kw_1214 : (Jvm.Cond.methodLink "java/lang/StringBuilder" 53 ⟨"java/lang/AbstractStringBuilder", "append", "(I)Ljava/lang/AbstractStringBuilder;"⟩) ∈ js_ws := js_ws_of 1214 (by decide +kernel) (by decide +kernel)
theorem kw_1215 : (Jvm.Cond.instanceMethod ⟨"java/lang/AbstractStringBuilder", "append", "(I)Ljava/lang/AbstractStringBuilder;"⟩) ∈ js_ws := js_ws_of 1215 (by decide +kernel) (by decide +kernel)
theorem kw_1217 : (Jvm.Cond.methodLink "java/lang/AbstractStringBuilder" 245 ⟨"java/lang/Integer", "stringSize", "(I)I"⟩) ∈ js_ws := js_ws_of 1217 (by decide +kernel) (by decide +kernel)
theorem kw_1218 : (Jvm.Cond.static ⟨"java/lang/Integer", "stringSize", "(I)I"⟩) ∈ js_ws := js_ws_of 1218 (by decide +kernel) (by decide +kernel)
theorem kw_1220 : (Jvm.Cond.methodLink "java/lang/AbstractStringBuilder" 248 ⟨"java/lang/Integer", "getChars", "(II[B)I"⟩) ∈ js_ws := js_ws_of 1220 (by decide +kernel) (by decide +kernel)
theorem kw_1221 : (Jvm.Cond.static ⟨"java/lang/Integer", "getChars", "(II[B)I"⟩) ∈ js_ws := js_ws_of 1221 (by decide +kernel) (by decide +kernel)
theorem kw_1223 : (Jvm.Cond.fieldLink "java/lang/Integer" 83 "java/lang/Integer" "DigitOnes" "[B") ∈ js_ws := js_ws_of 1223 (by decide +kernel) (by decide +kernel)
theorem kw_1225 : (Jvm.Cond.fieldLink "java/lang/Integer" 87 "java/lang/Integer" "DigitTens" "[B") ∈ js_ws := js_ws_of 1225 (by decide +kernel) (by decide +kernel)
theorem kw_1252 : (Jvm.Cond.fieldLink "java/lang/String" 9 "java/lang/String" "value" "[B") ∈ js_ws := js_ws_of 1252 (by decide +kernel) (by decide +kernel)
theorem kw_1253 : (Jvm.Cond.fieldLink "java/lang/String" 15 "java/lang/String" "coder" "B") ∈ js_ws := js_ws_of 1253 (by decide +kernel) (by decide +kernel)
theorem kw_1266 : (Jvm.Cond.methodLink "MosaicCatalogue" 290 ⟨"MosaicCatalogue", "signOf", "(I)C"⟩) ∈ js_ws := js_ws_of 1266 (by decide +kernel) (by decide +kernel)
theorem kw_1268 : (Jvm.Cond.instanceMethod ⟨"MosaicCatalogue", "signOf", "(I)C"⟩) ∈ js_ws := js_ws_of 1268 (by decide +kernel) (by decide +kernel)
theorem kw_1283 : (Jvm.Cond.instanceMethod ⟨"java/lang/String", "charAt", "(I)C"⟩) ∈ js_ws := js_ws_of 1283 (by decide +kernel) (by decide +kernel)
theorem kw_1284 : (Jvm.Cond.selects "java/lang/String" ⟨"java/lang/String", "charAt", "(I)C"⟩ ⟨"java/lang/String", "charAt", "(I)C"⟩) ∈ js_ws := js_ws_of 1284 (by decide +kernel) (by decide +kernel)
theorem kw_1286 : (Jvm.Cond.methodLink "java/lang/String" 492 ⟨"java/lang/String", "isLatin1", "()Z"⟩) ∈ js_ws := js_ws_of 1286 (by decide +kernel) (by decide +kernel)
theorem kw_1287 : (Jvm.Cond.instanceMethod ⟨"java/lang/String", "isLatin1", "()Z"⟩) ∈ js_ws := js_ws_of 1287 (by decide +kernel) (by decide +kernel)
theorem kw_1288 : (Jvm.Cond.selects "java/lang/String" ⟨"java/lang/String", "isLatin1", "()Z"⟩ ⟨"java/lang/String", "isLatin1", "()Z"⟩) ∈ js_ws := js_ws_of 1288 (by decide +kernel) (by decide +kernel)
theorem kw_1290 : (Jvm.Cond.methodLink "java/lang/String" 495 ⟨"java/lang/StringLatin1", "charAt", "([BI)C"⟩) ∈ js_ws := js_ws_of 1290 (by decide +kernel) (by decide +kernel)
theorem kw_1291 : (Jvm.Cond.static ⟨"java/lang/StringLatin1", "charAt", "([BI)C"⟩) ∈ js_ws := js_ws_of 1291 (by decide +kernel) (by decide +kernel)
theorem kw_1293 : (Jvm.Cond.methodLink "java/lang/StringLatin1" 9 ⟨"java/lang/String", "checkIndex", "(II)V"⟩) ∈ js_ws := js_ws_of 1293 (by decide +kernel) (by decide +kernel)
theorem kw_1305 : (Jvm.Cond.methodLink "MosaicCatalogue" 297 ⟨"MosaicCatalogue", "hexadecimalDigit", "(I)C"⟩) ∈ js_ws := js_ws_of 1305 (by decide +kernel) (by decide +kernel)
theorem kw_1306 : (Jvm.Cond.static ⟨"MosaicCatalogue", "hexadecimalDigit", "(I)C"⟩) ∈ js_ws := js_ws_of 1306 (by decide +kernel) (by decide +kernel)
theorem kw_1327 : (Jvm.Cond.methodLink "MosaicCatalogue" 70 ⟨"MosaicCatalogue$Board", "dropFromTray", "(I)I"⟩) ∈ js_ws := js_ws_of 1327 (by decide +kernel) (by decide +kernel)
theorem kw_1328 : (Jvm.Cond.instanceMethod ⟨"MosaicCatalogue$Board", "dropFromTray", "(I)I"⟩) ∈ js_ws := js_ws_of 1328 (by decide +kernel) (by decide +kernel)
theorem kw_1329 : (Jvm.Cond.selects "MosaicCatalogue$Board" ⟨"MosaicCatalogue$Board", "dropFromTray", "(I)I"⟩ ⟨"MosaicCatalogue$Board", "dropFromTray", "(I)I"⟩) ∈ js_ws := js_ws_of 1329 (by decide +kernel) (by decide +kernel)
theorem kw_1338 : (Jvm.Cond.methodLink "MosaicCatalogue" 146 ⟨"MosaicCatalogue$Board", "exchange", "(II)I"⟩) ∈ js_ws := js_ws_of 1338 (by decide +kernel) (by decide +kernel)
theorem kw_1339 : (Jvm.Cond.instanceMethod ⟨"MosaicCatalogue$Board", "exchange", "(II)I"⟩) ∈ js_ws := js_ws_of 1339 (by decide +kernel) (by decide +kernel)
theorem kw_1340 : (Jvm.Cond.selects "MosaicCatalogue$Board" ⟨"MosaicCatalogue$Board", "exchange", "(II)I"⟩ ⟨"MosaicCatalogue$Board", "exchange", "(II)I"⟩) ∈ js_ws := js_ws_of 1340 (by decide +kernel) (by decide +kernel)
theorem kw_1342 : (Jvm.Cond.methodLink "MosaicCatalogue$Board" 77 ⟨"MosaicCatalogue$Board", "countPairs", "(Z)I"⟩) ∈ js_ws := js_ws_of 1342 (by decide +kernel) (by decide +kernel)
theorem kw_1347 : (Jvm.Cond.methodLink "MosaicCatalogue" 160 ⟨"MosaicCatalogue$Guesses", "fillGaps", "(LMosaicCatalogue$Board;)I"⟩) ∈ js_ws := js_ws_of 1347 (by decide +kernel) (by decide +kernel)
theorem kw_1348 : (Jvm.Cond.instanceMethod ⟨"MosaicCatalogue$Guesses", "fillGaps", "(LMosaicCatalogue$Board;)I"⟩) ∈ js_ws := js_ws_of 1348 (by decide +kernel) (by decide +kernel)
theorem kw_1349 : (Jvm.Cond.selects "MosaicCatalogue$Guesses" ⟨"MosaicCatalogue$Guesses", "fillGaps", "(LMosaicCatalogue$Board;)I"⟩ ⟨"MosaicCatalogue$Guesses", "fillGaps", "(LMosaicCatalogue$Board;)I"⟩) ∈ js_ws := js_ws_of 1349 (by decide +kernel) (by decide +kernel)
theorem kw_1351 : (Jvm.Cond.methodLink "MosaicCatalogue$Guesses" 99 ⟨"MosaicCatalogue$Guesses", "bestGap", "(LMosaicCatalogue$Board;)I"⟩) ∈ js_ws := js_ws_of 1351 (by decide +kernel) (by decide +kernel)
theorem kw_1353 : (Jvm.Cond.instanceMethod ⟨"MosaicCatalogue$Guesses", "bestGap", "(LMosaicCatalogue$Board;)I"⟩) ∈ js_ws := js_ws_of 1353 (by decide +kernel) (by decide +kernel)
theorem kw_1355 : (Jvm.Cond.methodLink "MosaicCatalogue$Guesses" 87 ⟨"MosaicCatalogue$Board", "isGap", "(I)Z"⟩) ∈ js_ws := js_ws_of 1355 (by decide +kernel) (by decide +kernel)
theorem kw_1356 : (Jvm.Cond.methodLink "MosaicCatalogue$Guesses" 91 ⟨"MosaicCatalogue$Guesses", "lookAt", "(LMosaicCatalogue$Board;I)V"⟩) ∈ js_ws := js_ws_of 1356 (by decide +kernel) (by decide +kernel)
theorem kw_1357 : (Jvm.Cond.methodLink "MosaicCatalogue$Guesses" 95 ⟨"MosaicCatalogue$Guesses", "topWeightAbove", "(ILMosaicCatalogue$Board;)I"⟩) ∈ js_ws := js_ws_of 1357 (by decide +kernel) (by decide +kernel)
theorem kw_1359 : (Jvm.Cond.instanceMethod ⟨"MosaicCatalogue$Guesses", "topWeightAbove", "(ILMosaicCatalogue$Board;)I"⟩) ∈ js_ws := js_ws_of 1359 (by decide +kernel) (by decide +kernel)
theorem kw_1361 : (Jvm.Cond.methodLink "MosaicCatalogue$Guesses" 103 ⟨"MosaicCatalogue$Guesses", "pieceOfRank", "(LMosaicCatalogue$Board;I)LMosaicCatalogue$Fragment;"⟩) ∈ js_ws := js_ws_of 1361 (by decide +kernel) (by decide +kernel)
theorem kw_1362 : (Jvm.Cond.methodLink "MosaicCatalogue$Guesses" 107 ⟨"MosaicCatalogue$Guesses", "putGuess", "(LMosaicCatalogue$Board;LMosaicCatalogue$Fragment;)V"⟩) ∈ js_ws := js_ws_of 1362 (by decide +kernel) (by decide +kernel)
theorem kw_1377 : (Jvm.Cond.methodLink "MosaicCatalogue" 302 ⟨"MosaicCatalogue$Script", "isFull", "()Z"⟩) ∈ js_ws := js_ws_of 1377 (by decide +kernel) (by decide +kernel)
theorem kw_1378 : (Jvm.Cond.instanceMethod ⟨"MosaicCatalogue$Script", "isFull", "()Z"⟩) ∈ js_ws := js_ws_of 1378 (by decide +kernel) (by decide +kernel)
theorem kw_1379 : (Jvm.Cond.selects "MosaicCatalogue$Script" ⟨"MosaicCatalogue$Script", "isFull", "()Z"⟩ ⟨"MosaicCatalogue$Script", "isFull", "()Z"⟩) ∈ js_ws := js_ws_of 1379 (by decide +kernel) (by decide +kernel)
theorem kw_1382 : (Jvm.Cond.methodLink "MosaicCatalogue" 310 ⟨"MosaicCatalogue$Script", "append", "(C)I"⟩) ∈ js_ws := js_ws_of 1382 (by decide +kernel) (by decide +kernel)
theorem kw_1383 : (Jvm.Cond.instanceMethod ⟨"MosaicCatalogue$Script", "append", "(C)I"⟩) ∈ js_ws := js_ws_of 1383 (by decide +kernel) (by decide +kernel)
theorem kw_1384 : (Jvm.Cond.selects "MosaicCatalogue$Script" ⟨"MosaicCatalogue$Script", "append", "(C)I"⟩ ⟨"MosaicCatalogue$Script", "append", "(C)I"⟩) ∈ js_ws := js_ws_of 1384 (by decide +kernel) (by decide +kernel)
theorem kw_1393 : (Jvm.Cond.methodLink "MosaicCatalogue" 314 ⟨"MosaicCatalogue$Script", "readAll", "()Z"⟩) ∈ js_ws := js_ws_of 1393 (by decide +kernel) (by decide +kernel)
theorem kw_1394 : (Jvm.Cond.instanceMethod ⟨"MosaicCatalogue$Script", "readAll", "()Z"⟩) ∈ js_ws := js_ws_of 1394 (by decide +kernel) (by decide +kernel)
theorem kw_1395 : (Jvm.Cond.selects "MosaicCatalogue$Script" ⟨"MosaicCatalogue$Script", "readAll", "()Z"⟩ ⟨"MosaicCatalogue$Script", "readAll", "()Z"⟩) ∈ js_ws := js_ws_of 1395 (by decide +kernel) (by decide +kernel)
theorem kw_1397 : (Jvm.Cond.methodLink "MosaicCatalogue$Script" 29 ⟨"MosaicCatalogue$Script", "readCommand", "(LMosaicCatalogue$Command;)Z"⟩) ∈ js_ws := js_ws_of 1397 (by decide +kernel) (by decide +kernel)
theorem kw_1399 : (Jvm.Cond.instanceMethod ⟨"MosaicCatalogue$Script", "readCommand", "(LMosaicCatalogue$Command;)Z"⟩) ∈ js_ws := js_ws_of 1399 (by decide +kernel) (by decide +kernel)
theorem kw_1401 : (Jvm.Cond.methodLink "MosaicCatalogue$Script" 40 ⟨"MosaicCatalogue$Script", "readKeyword", "()LMosaicCatalogue$Keyword;"⟩) ∈ js_ws := js_ws_of 1401 (by decide +kernel) (by decide +kernel)
theorem kw_1403 : (Jvm.Cond.instanceMethod ⟨"MosaicCatalogue$Script", "readKeyword", "()LMosaicCatalogue$Keyword;"⟩) ∈ js_ws := js_ws_of 1403 (by decide +kernel) (by decide +kernel)
theorem kw_1407 : (Jvm.Cond.methodLink "MosaicCatalogue$Script" 77 ⟨"MosaicCatalogue$Script", "commonLength", "(Ljava/lang/String;)I"⟩) ∈ js_ws := js_ws_of 1407 (by decide +kernel) (by decide +kernel)
theorem kw_1409 : (Jvm.Cond.instanceMethod ⟨"MosaicCatalogue$Script", "commonLength", "(Ljava/lang/String;)I"⟩) ∈ js_ws := js_ws_of 1409 (by decide +kernel) (by decide +kernel)
theorem kw_1411 : (Jvm.Cond.methodLink "MosaicCatalogue$Script" 54 ⟨"java/lang/String", "length", "()I"⟩) ∈ js_ws := js_ws_of 1411 (by decide +kernel) (by decide +kernel)
theorem kw_1412 : (Jvm.Cond.methodLink "MosaicCatalogue$Script" 59 ⟨"java/lang/String", "charAt", "(I)C"⟩) ∈ js_ws := js_ws_of 1412 (by decide +kernel) (by decide +kernel)
theorem kw_1413 : (Jvm.Cond.methodLink "MosaicCatalogue$Script" 81 ⟨"java/lang/Math", "max", "(II)I"⟩) ∈ js_ws := js_ws_of 1413 (by decide +kernel) (by decide +kernel)
theorem kw_1414 : (Jvm.Cond.methodLink "MosaicCatalogue$Script" 63 ⟨"MosaicCatalogue$Script", "readNumber", "()I"⟩) ∈ js_ws := js_ws_of 1414 (by decide +kernel) (by decide +kernel)
theorem kw_1416 : (Jvm.Cond.instanceMethod ⟨"MosaicCatalogue$Script", "readNumber", "()I"⟩) ∈ js_ws := js_ws_of 1416 (by decide +kernel) (by decide +kernel)
theorem kw_1418 : (Jvm.Cond.methodLink "MosaicCatalogue$Script" 36 ⟨"MosaicCatalogue$Script", "readSign", "(C)I"⟩) ∈ js_ws := js_ws_of 1418 (by decide +kernel) (by decide +kernel)
theorem kw_1420 : (Jvm.Cond.instanceMethod ⟨"MosaicCatalogue$Script", "readSign", "(C)I"⟩) ∈ js_ws := js_ws_of 1420 (by decide +kernel) (by decide +kernel)
theorem kw_1422 : (Jvm.Cond.methodLink "MosaicCatalogue$Script" 87 ⟨"MosaicCatalogue$Script", "valueOfSign", "(CC)I"⟩) ∈ js_ws := js_ws_of 1422 (by decide +kernel) (by decide +kernel)
theorem kw_1423 : (Jvm.Cond.static ⟨"MosaicCatalogue$Script", "valueOfSign", "(CC)I"⟩) ∈ js_ws := js_ws_of 1423 (by decide +kernel) (by decide +kernel)
theorem kw_1427 : (Jvm.Cond.static ⟨"MosaicCatalogue", "digitValue", "(C)I"⟩) ∈ js_ws := js_ws_of 1427 (by decide +kernel) (by decide +kernel)
theorem kw_1429 : (Jvm.Cond.methodLink "MosaicCatalogue" 317 ⟨"MosaicCatalogue$Script", "clear", "()V"⟩) ∈ js_ws := js_ws_of 1429 (by decide +kernel) (by decide +kernel)
theorem kw_1430 : (Jvm.Cond.instanceMethod ⟨"MosaicCatalogue$Script", "clear", "()V"⟩) ∈ js_ws := js_ws_of 1430 (by decide +kernel) (by decide +kernel)
theorem kw_1431 : (Jvm.Cond.selects "MosaicCatalogue$Script" ⟨"MosaicCatalogue$Script", "clear", "()V"⟩ ⟨"MosaicCatalogue$Script", "clear", "()V"⟩) ∈ js_ws := js_ws_of 1431 (by decide +kernel) (by decide +kernel)
theorem kw_1434 : (Jvm.Cond.methodLink "MosaicCatalogue" 332 ⟨"MosaicCatalogue", "perform", "(LMosaicCatalogue$Command;)I"⟩) ∈ js_ws := js_ws_of 1434 (by decide +kernel) (by decide +kernel)
theorem kw_1436 : (Jvm.Cond.instanceMethod ⟨"MosaicCatalogue", "perform", "(LMosaicCatalogue$Command;)I"⟩) ∈ js_ws := js_ws_of 1436 (by decide +kernel) (by decide +kernel)
theorem kw_1438 : (Jvm.Cond.fieldLink "MosaicCatalogue" 399 "MosaicCatalogue$1" "$SwitchMap$MosaicCatalogue$Keyword" "[I") ∈ js_ws := js_ws_of 1438 (by decide +kernel) (by decide +kernel)
theorem kw_1440 : (Jvm.Cond.methodLink "MosaicCatalogue" 408 ⟨"MosaicCatalogue$Keyword", "ordinal", "()I"⟩) ∈ js_ws := js_ws_of 1440 (by decide +kernel) (by decide +kernel)
theorem kw_1441 : (Jvm.Cond.sameMethod "MosaicCatalogue$Keyword" "java/lang/Enum" "ordinal" "()I") ∈ js_ws := js_ws_of 1441 (by decide +kernel) (by decide +kernel)
theorem kw_1443 : (Jvm.Cond.selects "MosaicCatalogue$Keyword" ⟨"MosaicCatalogue$Keyword", "ordinal", "()I"⟩ ⟨"java/lang/Enum", "ordinal", "()I"⟩) ∈ js_ws := js_ws_of 1443 (by decide +kernel) (by decide +kernel)
theorem kw_1444 : (Jvm.Cond.instanceMethod ⟨"java/lang/Enum", "ordinal", "()I"⟩) ∈ js_ws := js_ws_of 1444 (by decide +kernel) (by decide +kernel)
theorem kw_1446 : (Jvm.Cond.methodLink "MosaicCatalogue" 336 ⟨"MosaicCatalogue$History", "prepared", "()LMosaicCatalogue$Board;"⟩) ∈ js_ws := js_ws_of 1446 (by decide +kernel) (by decide +kernel)
theorem kw_1447 : (Jvm.Cond.methodLink "MosaicCatalogue" 340 ⟨"MosaicCatalogue$Board", "copyFrom", "(LMosaicCatalogue$Board;)V"⟩) ∈ js_ws := js_ws_of 1447 (by decide +kernel) (by decide +kernel)
theorem kw_1461 : (Jvm.Cond.methodLink "MosaicCatalogue" 355 ⟨"MosaicCatalogue$History", "takeLatest", "()LMosaicCatalogue$Board;"⟩) ∈ js_ws := js_ws_of 1461 (by decide +kernel) (by decide +kernel)
theorem kw_1462 : (Jvm.Cond.instanceMethod ⟨"MosaicCatalogue$History", "takeLatest", "()LMosaicCatalogue$Board;"⟩) ∈ js_ws := js_ws_of 1462 (by decide +kernel) (by decide +kernel)
theorem kw_1463 : (Jvm.Cond.selects "MosaicCatalogue$History" ⟨"MosaicCatalogue$History", "takeLatest", "()LMosaicCatalogue$Board;"⟩ ⟨"MosaicCatalogue$History", "takeLatest", "()LMosaicCatalogue$Board;"⟩) ∈ js_ws := js_ws_of 1463 (by decide +kernel) (by decide +kernel)
theorem kw_1466 : (Jvm.Cond.sameMethod "java/lang/AbstractStringBuilder" "java/lang/AbstractStringBuilder" "append" "(Ljava/lang/String;)Ljava/lang/AbstractStringBuilder;") ∈ js_ws := js_ws_of 1466 (by decide +kernel) (by decide +kernel)
theorem kw_1468 : (Jvm.Cond.sameMethod "java/lang/AbstractStringBuilder" "java/lang/AbstractStringBuilder" "ensureCapacityInternal" "(I)V") ∈ js_ws := js_ws_of 1468 (by decide +kernel) (by decide +kernel)
theorem kw_1469 : (Jvm.Cond.sameMethod "java/lang/AbstractStringBuilder" "java/lang/AbstractStringBuilder" "newCapacity" "(I)I") ∈ js_ws := js_ws_of 1469 (by decide +kernel) (by decide +kernel)
theorem kw_1470 : (Jvm.Cond.sameMethod "java/lang/AbstractStringBuilder" "java/lang/AbstractStringBuilder" "putStringAt" "(ILjava/lang/String;)V") ∈ js_ws := js_ws_of 1470 (by decide +kernel) (by decide +kernel)
theorem kw_1471 : (Jvm.Cond.sameMethod "java/lang/AbstractStringBuilder" "java/lang/AbstractStringBuilder" "inflateIfNeededFor" "(Ljava/lang/String;)V") ∈ js_ws := js_ws_of 1471 (by decide +kernel) (by decide +kernel)
theorem kw_1473 : (Jvm.Cond.sameMethod "java/lang/AbstractStringBuilder" "java/lang/AbstractStringBuilder" "append" "(C)Ljava/lang/AbstractStringBuilder;") ∈ js_ws := js_ws_of 1473 (by decide +kernel) (by decide +kernel)
theorem kw_1474 : (Jvm.Cond.sameMethod "java/lang/AbstractStringBuilder" "java/lang/AbstractStringBuilder" "append" "(I)Ljava/lang/AbstractStringBuilder;") ∈ js_ws := js_ws_of 1474 (by decide +kernel) (by decide +kernel)
theorem kw_1497 : (Jvm.Cond.fieldLink "java/lang/Enum" 7 "java/lang/Enum" "ordinal" "I") ∈ js_ws := js_ws_of 1497 (by decide +kernel) (by decide +kernel)
theorem kn_75 : (Jvm.Cond.arrayOver (FieldType.object "MosaicCatalogue$Fragment")) ∈ lw_tbl := List.mem_of_getElem? (i := 75) (by decide +kernel)
theorem kn_77 : (Jvm.Cond.methodLinkNest "MosaicCatalogue$Board" 20 ⟨"MosaicCatalogue$Fragment", "<init>", "()V"⟩ "MosaicCatalogue") ∈ lw_tbl := List.mem_of_getElem? (i := 77) (by decide +kernel)
theorem kn_81 : (Jvm.Cond.fieldLinkNest "MosaicCatalogue$Board" 39 "MosaicCatalogue$Fragment" "id" "I" "MosaicCatalogue") ∈ lw_tbl := List.mem_of_getElem? (i := 81) (by decide +kernel)
theorem kn_83 : (Jvm.Cond.fieldLinkNest "MosaicCatalogue" 91 "MosaicCatalogue$Fragment" "id" "I" "MosaicCatalogue") ∈ lw_tbl := List.mem_of_getElem? (i := 83) (by decide +kernel)
theorem kn_84 : (Jvm.Cond.fieldLinkNest "MosaicCatalogue$Guesses" 41 "MosaicCatalogue$Fragment" "colour" "C" "MosaicCatalogue") ∈ lw_tbl := List.mem_of_getElem? (i := 84) (by decide +kernel)
theorem kn_86 : (Jvm.Cond.fieldLinkNest "MosaicCatalogue$Board" 54 "MosaicCatalogue$Fragment" "colour" "C" "MosaicCatalogue") ∈ lw_tbl := List.mem_of_getElem? (i := 86) (by decide +kernel)
theorem kn_87 : (Jvm.Cond.fieldLinkNest "MosaicCatalogue" 102 "MosaicCatalogue$Fragment" "colour" "C" "MosaicCatalogue") ∈ lw_tbl := List.mem_of_getElem? (i := 87) (by decide +kernel)
theorem kn_89 : (Jvm.Cond.fieldLinkNest "MosaicCatalogue$Guesses" 45 "MosaicCatalogue$Fragment" "edges" "[I" "MosaicCatalogue") ∈ lw_tbl := List.mem_of_getElem? (i := 89) (by decide +kernel)
theorem kn_90 : (Jvm.Cond.fieldLinkNest "MosaicCatalogue$Board" 58 "MosaicCatalogue$Fragment" "edges" "[I" "MosaicCatalogue") ∈ lw_tbl := List.mem_of_getElem? (i := 90) (by decide +kernel)
theorem kn_92 : (Jvm.Cond.fieldLinkNest "MosaicCatalogue$Board" 62 "MosaicCatalogue$Fragment" "turn" "I" "MosaicCatalogue") ∈ lw_tbl := List.mem_of_getElem? (i := 92) (by decide +kernel)
theorem kn_93 : (Jvm.Cond.fieldLinkNest "MosaicCatalogue$Guesses" 80 "MosaicCatalogue$Fragment" "turn" "I" "MosaicCatalogue") ∈ lw_tbl := List.mem_of_getElem? (i := 93) (by decide +kernel)
theorem kn_94 : (Jvm.Cond.fieldLinkNest "MosaicCatalogue" 106 "MosaicCatalogue$Fragment" "turn" "I" "MosaicCatalogue") ∈ lw_tbl := List.mem_of_getElem? (i := 94) (by decide +kernel)
theorem kn_96 : (Jvm.Cond.fieldLinkNest "MosaicCatalogue$Groups" 21 "MosaicCatalogue$Fragment" "cell" "I" "MosaicCatalogue") ∈ lw_tbl := List.mem_of_getElem? (i := 96) (by decide +kernel)
theorem kn_97 : (Jvm.Cond.fieldLinkNest "MosaicCatalogue$Board" 36 "MosaicCatalogue$Fragment" "cell" "I" "MosaicCatalogue") ∈ lw_tbl := List.mem_of_getElem? (i := 97) (by decide +kernel)
theorem kn_98 : (Jvm.Cond.fieldLinkNest "MosaicCatalogue" 123 "MosaicCatalogue$Fragment" "cell" "I" "MosaicCatalogue") ∈ lw_tbl := List.mem_of_getElem? (i := 98) (by decide +kernel)
theorem kn_112 : (Jvm.Cond.fieldLinkNest "MosaicCatalogue$Groups" 42 "MosaicCatalogue$Board" "fragments" "[LMosaicCatalogue$Fragment;" "MosaicCatalogue") ∈ lw_tbl := List.mem_of_getElem? (i := 112) (by decide +kernel)
theorem kn_113 : (Jvm.Cond.fieldLinkNest "MosaicCatalogue$Guesses" 61 "MosaicCatalogue$Board" "fragments" "[LMosaicCatalogue$Fragment;" "MosaicCatalogue") ∈ lw_tbl := List.mem_of_getElem? (i := 113) (by decide +kernel)
theorem kn_114 : (Jvm.Cond.fieldLinkNest "MosaicCatalogue" 126 "MosaicCatalogue$Board" "fragments" "[LMosaicCatalogue$Fragment;" "MosaicCatalogue") ∈ lw_tbl := List.mem_of_getElem? (i := 114) (by decide +kernel)
theorem kn_116 : (Jvm.Cond.fieldLinkNest "MosaicCatalogue" 164 "MosaicCatalogue$Board" "grid" "[LMosaicCatalogue$Fragment;" "MosaicCatalogue") ∈ lw_tbl := List.mem_of_getElem? (i := 116) (by decide +kernel)
theorem kn_118 : (Jvm.Cond.fieldLinkNest "MosaicCatalogue$Groups" 39 "MosaicCatalogue$Board" "count" "I" "MosaicCatalogue") ∈ lw_tbl := List.mem_of_getElem? (i := 118) (by decide +kernel)
theorem kn_119 : (Jvm.Cond.fieldLinkNest "MosaicCatalogue" 73 "MosaicCatalogue$Board" "count" "I" "MosaicCatalogue") ∈ lw_tbl := List.mem_of_getElem? (i := 119) (by decide +kernel)
theorem kn_120 : (Jvm.Cond.fieldLinkNest "MosaicCatalogue$Guesses" 58 "MosaicCatalogue$Board" "count" "I" "MosaicCatalogue") ∈ lw_tbl := List.mem_of_getElem? (i := 120) (by decide +kernel)
theorem kn_138 : (Jvm.Cond.arrayOver (FieldType.object "MosaicCatalogue$Board")) ∈ lw_tbl := List.mem_of_getElem? (i := 138) (by decide +kernel)
theorem kn_143 : (Jvm.Cond.fieldLinkNest "MosaicCatalogue" 352 "MosaicCatalogue$History" "count" "I" "MosaicCatalogue") ∈ lw_tbl := List.mem_of_getElem? (i := 143) (by decide +kernel)
theorem kn_153 : (Jvm.Cond.methodLinkNest "MosaicCatalogue" 28 ⟨"MosaicCatalogue$Guesses", "<init>", "()V"⟩ "MosaicCatalogue") ∈ lw_tbl := List.mem_of_getElem? (i := 153) (by decide +kernel)
theorem kn_173 : (Jvm.Cond.methodLinkNest "MosaicCatalogue" 35 ⟨"MosaicCatalogue$Groups", "<init>", "()V"⟩ "MosaicCatalogue") ∈ lw_tbl := List.mem_of_getElem? (i := 173) (by decide +kernel)
theorem kn_192 : (Jvm.Cond.arrayOver (FieldType.object "MosaicCatalogue$Command")) ∈ lw_tbl := List.mem_of_getElem? (i := 192) (by decide +kernel)
theorem kn_194 : (Jvm.Cond.methodLinkNest "MosaicCatalogue$Script" 21 ⟨"MosaicCatalogue$Command", "<init>", "()V"⟩ "MosaicCatalogue") ∈ lw_tbl := List.mem_of_getElem? (i := 194) (by decide +kernel)
theorem kn_201 : (Jvm.Cond.fieldLinkNest "MosaicCatalogue$Script" 44 "MosaicCatalogue$Command" "keyword" "LMosaicCatalogue$Keyword;" "MosaicCatalogue") ∈ lw_tbl := List.mem_of_getElem? (i := 201) (by decide +kernel)
theorem kn_202 : (Jvm.Cond.fieldLinkNest "MosaicCatalogue" 404 "MosaicCatalogue$Command" "keyword" "LMosaicCatalogue$Keyword;" "MosaicCatalogue") ∈ lw_tbl := List.mem_of_getElem? (i := 202) (by decide +kernel)
theorem kn_204 : (Jvm.Cond.fieldLinkNest "MosaicCatalogue$Script" 66 "MosaicCatalogue$Command" "values" "[I" "MosaicCatalogue") ∈ lw_tbl := List.mem_of_getElem? (i := 204) (by decide +kernel)
theorem kn_205 : (Jvm.Cond.fieldLinkNest "MosaicCatalogue" 393 "MosaicCatalogue$Command" "values" "[I" "MosaicCatalogue") ∈ lw_tbl := List.mem_of_getElem? (i := 205) (by decide +kernel)
theorem kn_214 : (Jvm.Cond.fieldLinkNest "MosaicCatalogue" 320 "MosaicCatalogue$Script" "position" "I" "MosaicCatalogue") ∈ lw_tbl := List.mem_of_getElem? (i := 214) (by decide +kernel)
theorem kn_216 : (Jvm.Cond.fieldLinkNest "MosaicCatalogue" 328 "MosaicCatalogue$Script" "commands" "[LMosaicCatalogue$Command;" "MosaicCatalogue") ∈ lw_tbl := List.mem_of_getElem? (i := 216) (by decide +kernel)
theorem kn_218 : (Jvm.Cond.fieldLinkNest "MosaicCatalogue" 325 "MosaicCatalogue$Script" "commandCount" "I" "MosaicCatalogue") ∈ lw_tbl := List.mem_of_getElem? (i := 218) (by decide +kernel)
theorem kn_306 : (Jvm.Cond.methodLinkNest "MosaicCatalogue$Board" 46 ⟨"MosaicCatalogue", "isColour", "(C)Z"⟩ "MosaicCatalogue") ∈ lw_tbl := List.mem_of_getElem? (i := 306) (by decide +kernel)
theorem kn_309 : (Jvm.Cond.methodLinkNest "MosaicCatalogue$Board" 50 ⟨"MosaicCatalogue", "isUpTo", "(II)Z"⟩ "MosaicCatalogue") ∈ lw_tbl := List.mem_of_getElem? (i := 309) (by decide +kernel)
theorem kn_519 : (Jvm.Cond.fieldLinkNest "MosaicCatalogue$Board" 81 "MosaicCatalogue" "ROW_STEPS" "[I" "MosaicCatalogue") ∈ lw_tbl := List.mem_of_getElem? (i := 519) (by decide +kernel)
theorem kn_521 : (Jvm.Cond.fieldLinkNest "MosaicCatalogue$Board" 84 "MosaicCatalogue" "COLUMN_STEPS" "[I" "MosaicCatalogue") ∈ lw_tbl := List.mem_of_getElem? (i := 521) (by decide +kernel)
theorem kn_548 : (Jvm.Cond.methodLinkNest "MosaicCatalogue$Guesses" 32 ⟨"MosaicCatalogue", "opposite", "(I)I"⟩ "MosaicCatalogue") ∈ lw_tbl := List.mem_of_getElem? (i := 548) (by decide +kernel)
theorem kn_609 : (Jvm.Cond.methodLinkNest "MosaicCatalogue$Board" 97 ⟨"MosaicCatalogue", "opposite", "(I)I"⟩ "MosaicCatalogue") ∈ lw_tbl := List.mem_of_getElem? (i := 609) (by decide +kernel)
theorem kn_722 : (Jvm.Cond.methodLinkNest "MosaicCatalogue$Groups" 25 ⟨"MosaicCatalogue", "bit", "(I)J"⟩ "MosaicCatalogue") ∈ lw_tbl := List.mem_of_getElem? (i := 722) (by decide +kernel)
theorem kn_1072 : (Jvm.Cond.castable "[B" "java/lang/Cloneable") ∈ lw_tbl := List.mem_of_getElem? (i := 1072) (by decide +kernel)
theorem kn_1405 : (Jvm.Cond.fieldLinkNest "MosaicCatalogue$Script" 70 "MosaicCatalogue" "KEYWORDS" "[LMosaicCatalogue$Keyword;" "MosaicCatalogue") ∈ lw_tbl := List.mem_of_getElem? (i := 1405) (by decide +kernel)
theorem kn_1425 : (Jvm.Cond.methodLinkNest "MosaicCatalogue$Script" 91 ⟨"MosaicCatalogue", "isColour", "(C)Z"⟩ "MosaicCatalogue") ∈ lw_tbl := List.mem_of_getElem? (i := 1425) (by decide +kernel)
theorem kn_1426 : (Jvm.Cond.methodLinkNest "MosaicCatalogue$Script" 95 ⟨"MosaicCatalogue", "digitValue", "(C)I"⟩ "MosaicCatalogue") ∈ lw_tbl := List.mem_of_getElem? (i := 1426) (by decide +kernel)
theorem kn_1495 : (Jvm.Cond.fieldLinkNest "MosaicCatalogue$Script" 74 "MosaicCatalogue$Keyword" "word" "Ljava/lang/String;" "MosaicCatalogue") ∈ lw_tbl := List.mem_of_getElem? (i := 1495) (by decide +kernel)
theorem kn_1496 : (Jvm.Cond.fieldLinkNest "MosaicCatalogue$Script" 48 "MosaicCatalogue$Keyword" "form" "Ljava/lang/String;" "MosaicCatalogue") ∈ lw_tbl := List.mem_of_getElem? (i := 1496) (by decide +kernel)
theorem ks_4 : Jvm.Cond.selects "MosaicCatalogue" ⟨"MosaicCatalogue", "checkGap", "(I)V"⟩ ⟨"MosaicCatalogue", "checkGap", "(I)V"⟩ ∈ js_ws := js_ws_of 4 (by decide +kernel) (by decide +kernel)
theorem ks_3 : Jvm.Cond.selects "MosaicCatalogue" ⟨"MosaicCatalogue", "gapOf", "(II)I"⟩ ⟨"MosaicCatalogue", "gapOf", "(II)I"⟩ ∈ js_ws := js_ws_of 3 (by decide +kernel) (by decide +kernel)
theorem ks_9 : Jvm.Cond.selects "MosaicCatalogue" ⟨"MosaicCatalogue", "gridPieceOf", "(I)LMosaicCatalogue$Fragment;"⟩ ⟨"MosaicCatalogue", "gridPieceOf", "(I)LMosaicCatalogue$Fragment;"⟩ ∈ js_ws := js_ws_of 9 (by decide +kernel) (by decide +kernel)
theorem ks_5 : Jvm.Cond.selects "MosaicCatalogue" ⟨"MosaicCatalogue", "guessFor", "(II)LMosaicCatalogue$Fragment;"⟩ ⟨"MosaicCatalogue", "guessFor", "(II)LMosaicCatalogue$Fragment;"⟩ ∈ js_ws := js_ws_of 5 (by decide +kernel) (by decide +kernel)
theorem ks_20 : Jvm.Cond.selects "MosaicCatalogue" ⟨"MosaicCatalogue", "perform", "(LMosaicCatalogue$Command;)I"⟩ ⟨"MosaicCatalogue", "perform", "(LMosaicCatalogue$Command;)I"⟩ ∈ js_ws := js_ws_of 20 (by decide +kernel) (by decide +kernel)
theorem ks_8 : Jvm.Cond.selects "MosaicCatalogue" ⟨"MosaicCatalogue", "pieceOf", "(I)LMosaicCatalogue$Fragment;"⟩ ⟨"MosaicCatalogue", "pieceOf", "(I)LMosaicCatalogue$Fragment;"⟩ ∈ js_ws := js_ws_of 8 (by decide +kernel) (by decide +kernel)
theorem ks_0 : Jvm.Cond.selects "MosaicCatalogue" ⟨"MosaicCatalogue", "settle", "(I)I"⟩ ⟨"MosaicCatalogue", "settle", "(I)I"⟩ ∈ js_ws := js_ws_of 0 (by decide +kernel) (by decide +kernel)
theorem ks_12 : Jvm.Cond.selects "MosaicCatalogue" ⟨"MosaicCatalogue", "signOf", "(I)C"⟩ ⟨"MosaicCatalogue", "signOf", "(I)C"⟩ ∈ js_ws := js_ws_of 12 (by decide +kernel) (by decide +kernel)
theorem ks_2 : Jvm.Cond.selects "MosaicCatalogue$Board" ⟨"MosaicCatalogue$Board", "indexOf", "(I)I"⟩ ⟨"MosaicCatalogue$Board", "indexOf", "(I)I"⟩ ∈ js_ws := js_ws_of 2 (by decide +kernel) (by decide +kernel)
theorem ks_11 : Jvm.Cond.selects "MosaicCatalogue$Groups" ⟨"MosaicCatalogue$Groups", "rootOf", "(I)I"⟩ ⟨"MosaicCatalogue$Groups", "rootOf", "(I)I"⟩ ∈ js_ws := js_ws_of 11 (by decide +kernel) (by decide +kernel)
theorem ks_10 : Jvm.Cond.selects "MosaicCatalogue$Groups" ⟨"MosaicCatalogue$Groups", "unite", "(LMosaicCatalogue$Board;LMosaicCatalogue$Fragment;I)I"⟩ ⟨"MosaicCatalogue$Groups", "unite", "(LMosaicCatalogue$Board;LMosaicCatalogue$Fragment;I)I"⟩ ∈ js_ws := js_ws_of 10 (by decide +kernel) (by decide +kernel)
theorem ks_13 : Jvm.Cond.selects "MosaicCatalogue$Guesses" ⟨"MosaicCatalogue$Guesses", "bestGap", "(LMosaicCatalogue$Board;)I"⟩ ⟨"MosaicCatalogue$Guesses", "bestGap", "(LMosaicCatalogue$Board;)I"⟩ ∈ js_ws := js_ws_of 13 (by decide +kernel) (by decide +kernel)
theorem ks_7 : Jvm.Cond.selects "MosaicCatalogue$Guesses" ⟨"MosaicCatalogue$Guesses", "rankOf", "(LMosaicCatalogue$Board;I)I"⟩ ⟨"MosaicCatalogue$Guesses", "rankOf", "(LMosaicCatalogue$Board;I)I"⟩ ∈ js_ws := js_ws_of 7 (by decide +kernel) (by decide +kernel)
theorem ks_6 : Jvm.Cond.selects "MosaicCatalogue$Guesses" ⟨"MosaicCatalogue$Guesses", "topWeight", "(LMosaicCatalogue$Fragment;)I"⟩ ⟨"MosaicCatalogue$Guesses", "topWeight", "(LMosaicCatalogue$Fragment;)I"⟩ ∈ js_ws := js_ws_of 6 (by decide +kernel) (by decide +kernel)
theorem ks_14 : Jvm.Cond.selects "MosaicCatalogue$Guesses" ⟨"MosaicCatalogue$Guesses", "topWeightAbove", "(ILMosaicCatalogue$Board;)I"⟩ ⟨"MosaicCatalogue$Guesses", "topWeightAbove", "(ILMosaicCatalogue$Board;)I"⟩ ∈ js_ws := js_ws_of 14 (by decide +kernel) (by decide +kernel)
theorem ks_17 : Jvm.Cond.selects "MosaicCatalogue$Script" ⟨"MosaicCatalogue$Script", "commonLength", "(Ljava/lang/String;)I"⟩ ⟨"MosaicCatalogue$Script", "commonLength", "(Ljava/lang/String;)I"⟩ ∈ js_ws := js_ws_of 17 (by decide +kernel) (by decide +kernel)
theorem ks_15 : Jvm.Cond.selects "MosaicCatalogue$Script" ⟨"MosaicCatalogue$Script", "readCommand", "(LMosaicCatalogue$Command;)Z"⟩ ⟨"MosaicCatalogue$Script", "readCommand", "(LMosaicCatalogue$Command;)Z"⟩ ∈ js_ws := js_ws_of 15 (by decide +kernel) (by decide +kernel)
theorem ks_16 : Jvm.Cond.selects "MosaicCatalogue$Script" ⟨"MosaicCatalogue$Script", "readKeyword", "()LMosaicCatalogue$Keyword;"⟩ ⟨"MosaicCatalogue$Script", "readKeyword", "()LMosaicCatalogue$Keyword;"⟩ ∈ js_ws := js_ws_of 16 (by decide +kernel) (by decide +kernel)
theorem ks_18 : Jvm.Cond.selects "MosaicCatalogue$Script" ⟨"MosaicCatalogue$Script", "readNumber", "()I"⟩ ⟨"MosaicCatalogue$Script", "readNumber", "()I"⟩ ∈ js_ws := js_ws_of 18 (by decide +kernel) (by decide +kernel)
theorem ks_19 : Jvm.Cond.selects "MosaicCatalogue$Script" ⟨"MosaicCatalogue$Script", "readSign", "(C)I"⟩ ⟨"MosaicCatalogue$Script", "readSign", "(C)I"⟩ ∈ js_ws := js_ws_of 19 (by decide +kernel) (by decide +kernel)
theorem kxs_0 : Jvm.Cond.selects "java/lang/StringBuilder" ⟨"java/lang/AbstractStringBuilder", "ensureCapacityInternal", "(I)V"⟩ ⟨"java/lang/AbstractStringBuilder", "ensureCapacityInternal", "(I)V"⟩ ∈ js_ws := js_ws_x (by decide +kernel) (by decide +kernel)
theorem kxs_3 : Jvm.Cond.selects "java/lang/StringBuilder" ⟨"java/lang/AbstractStringBuilder", "inflateIfNeededFor", "(Ljava/lang/String;)V"⟩ ⟨"java/lang/AbstractStringBuilder", "inflateIfNeededFor", "(Ljava/lang/String;)V"⟩ ∈ js_ws := js_ws_x (by decide +kernel) (by decide +kernel)
theorem kxs_1 : Jvm.Cond.selects "java/lang/StringBuilder" ⟨"java/lang/AbstractStringBuilder", "newCapacity", "(I)I"⟩ ⟨"java/lang/AbstractStringBuilder", "newCapacity", "(I)I"⟩ ∈ js_ws := js_ws_x (by decide +kernel) (by decide +kernel)
theorem kxs_2 : Jvm.Cond.selects "java/lang/StringBuilder" ⟨"java/lang/AbstractStringBuilder", "putStringAt", "(ILjava/lang/String;)V"⟩ ⟨"java/lang/AbstractStringBuilder", "putStringAt", "(ILjava/lang/String;)V"⟩ ∈ js_ws := js_ws_x (by decide +kernel) (by decide +kernel)
theorem kc_0 : js_code 0 ∈ js_ws := js_ws_of 72 (by decide +kernel) (by decide +kernel)
theorem kc_1 : js_code 1 ∈ js_ws := js_ws_of 290 (by decide +kernel) (by decide +kernel)
theorem kc_2 : js_code 2 ∈ js_ws := js_ws_of 465 (by decide +kernel) (by decide +kernel)
theorem kc_3 : js_code 3 ∈ js_ws := js_ws_of 461 (by decide +kernel) (by decide +kernel)
theorem kc_4 : js_code 4 ∈ js_ws := js_ws_of 757 (by decide +kernel) (by decide +kernel)
theorem kc_5 : js_code 5 ∈ js_ws := js_ws_of 677 (by decide +kernel) (by decide +kernel)
theorem kc_6 : js_code 6 ∈ js_ws := js_ws_of 305 (by decide +kernel) (by decide +kernel)
theorem kc_7 : js_code 7 ∈ js_ws := js_ws_of 1330 (by decide +kernel) (by decide +kernel)
theorem kc_8 : js_code 8 ∈ js_ws := js_ws_of 598 (by decide +kernel) (by decide +kernel)
theorem kc_9 : js_code 9 ∈ js_ws := js_ws_of 587 (by decide +kernel) (by decide +kernel)
theorem kc_10 : js_code 10 ∈ js_ws := js_ws_of 620 (by decide +kernel) (by decide +kernel)
theorem kc_11 : js_code 11 ∈ js_ws := js_ws_of 457 (by decide +kernel) (by decide +kernel)
theorem kc_12 : js_code 12 ∈ js_ws := js_ws_of 1341 (by decide +kernel) (by decide +kernel)
theorem kc_13 : js_code 13 ∈ js_ws := js_ws_of 518 (by decide +kernel) (by decide +kernel)
theorem kc_14 : js_code 14 ∈ js_ws := js_ws_of 514 (by decide +kernel) (by decide +kernel)
theorem kc_15 : js_code 15 ∈ js_ws := js_ws_of 510 (by decide +kernel) (by decide +kernel)
theorem kc_16 : js_code 16 ∈ js_ws := js_ws_of 607 (by decide +kernel) (by decide +kernel)
theorem kc_17 : js_code 17 ∈ js_ws := js_ws_of 603 (by decide +kernel) (by decide +kernel)
theorem kc_18 : js_code 18 ∈ js_ws := js_ws_of 819 (by decide +kernel) (by decide +kernel)
theorem kc_19 : js_code 19 ∈ js_ws := js_ws_of 196 (by decide +kernel) (by decide +kernel)
theorem kc_20 : js_code 20 ∈ js_ws := js_ws_of 79 (by decide +kernel) (by decide +kernel)
theorem kc_21 : js_code 21 ∈ js_ws := js_ws_of 301 (by decide +kernel) (by decide +kernel)
theorem kc_22 : js_code 22 ∈ js_ws := js_ws_of 554 (by decide +kernel) (by decide +kernel)
theorem kc_23 : js_code 23 ∈ js_ws := js_ws_of 294 (by decide +kernel) (by decide +kernel)
theorem kc_24 : js_code 24 ∈ js_ws := js_ws_of 175 (by decide +kernel) (by decide +kernel)
theorem kc_25 : js_code 25 ∈ js_ws := js_ws_of 721 (by decide +kernel) (by decide +kernel)
theorem kc_26 : js_code 26 ∈ js_ws := js_ws_of 961 (by decide +kernel) (by decide +kernel)
theorem kc_27 : js_code 27 ∈ js_ws := js_ws_of 991 (by decide +kernel) (by decide +kernel)
theorem kc_28 : js_code 28 ∈ js_ws := js_ws_of 971 (by decide +kernel) (by decide +kernel)
theorem kc_29 : js_code 29 ∈ js_ws := js_ws_of 976 (by decide +kernel) (by decide +kernel)
theorem kc_30 : js_code 30 ∈ js_ws := js_ws_of 980 (by decide +kernel) (by decide +kernel)
theorem kc_31 : js_code 31 ∈ js_ws := js_ws_of 155 (by decide +kernel) (by decide +kernel)
theorem kc_32 : js_code 32 ∈ js_ws := js_ws_of 546 (by decide +kernel) (by decide +kernel)
theorem kc_33 : js_code 33 ∈ js_ws := js_ws_of 566 (by decide +kernel) (by decide +kernel)
theorem kc_34 : js_code 34 ∈ js_ws := js_ws_of 583 (by decide +kernel) (by decide +kernel)
theorem kc_35 : js_code 35 ∈ js_ws := js_ws_of 562 (by decide +kernel) (by decide +kernel)
theorem kc_36 : js_code 36 ∈ js_ws := js_ws_of 558 (by decide +kernel) (by decide +kernel)
theorem kc_37 : js_code 37 ∈ js_ws := js_ws_of 574 (by decide +kernel) (by decide +kernel)
theorem kc_38 : js_code 38 ∈ js_ws := js_ws_of 579 (by decide +kernel) (by decide +kernel)
theorem kc_39 : js_code 39 ∈ js_ws := js_ws_of 1360 (by decide +kernel) (by decide +kernel)
theorem kc_40 : js_code 40 ∈ js_ws := js_ws_of 1354 (by decide +kernel) (by decide +kernel)
theorem kc_41 : js_code 41 ∈ js_ws := js_ws_of 1350 (by decide +kernel) (by decide +kernel)
theorem kc_42 : js_code 42 ∈ js_ws := js_ws_of 135 (by decide +kernel) (by decide +kernel)
theorem kc_43 : js_code 43 ∈ js_ws := js_ws_of 282 (by decide +kernel) (by decide +kernel)
theorem kc_44 : js_code 44 ∈ js_ws := js_ws_of 286 (by decide +kernel) (by decide +kernel)
theorem kc_45 : js_code 45 ∈ js_ws := js_ws_of 442 (by decide +kernel) (by decide +kernel)
theorem kc_46 : js_code 46 ∈ js_ws := js_ws_of 1464 (by decide +kernel) (by decide +kernel)
theorem kc_48 : js_code 48 ∈ js_ws := js_ws_of 189 (by decide +kernel) (by decide +kernel)
theorem kc_49 : js_code 49 ∈ js_ws := js_ws_of 1380 (by decide +kernel) (by decide +kernel)
theorem kc_50 : js_code 50 ∈ js_ws := js_ws_of 1385 (by decide +kernel) (by decide +kernel)
theorem kc_51 : js_code 51 ∈ js_ws := js_ws_of 1432 (by decide +kernel) (by decide +kernel)
theorem kc_52 : js_code 52 ∈ js_ws := js_ws_of 1396 (by decide +kernel) (by decide +kernel)
theorem kc_53 : js_code 53 ∈ js_ws := js_ws_of 1400 (by decide +kernel) (by decide +kernel)
theorem kc_54 : js_code 54 ∈ js_ws := js_ws_of 1404 (by decide +kernel) (by decide +kernel)
theorem kc_55 : js_code 55 ∈ js_ws := js_ws_of 1410 (by decide +kernel) (by decide +kernel)
theorem kc_56 : js_code 56 ∈ js_ws := js_ws_of 1417 (by decide +kernel) (by decide +kernel)
theorem kc_57 : js_code 57 ∈ js_ws := js_ws_of 1421 (by decide +kernel) (by decide +kernel)
theorem kc_58 : js_code 58 ∈ js_ws := js_ws_of 1424 (by decide +kernel) (by decide +kernel)
theorem kc_80 : js_code 80 ∈ js_ws := js_ws_of 864 (by decide +kernel) (by decide +kernel)
theorem kc_82 : js_code 82 ∈ js_ws := js_ws_of 868 (by decide +kernel) (by decide +kernel)
theorem kc_83 : js_code 83 ∈ js_ws := js_ws_of 872 (by decide +kernel) (by decide +kernel)
theorem kc_94 : js_code 94 ∈ js_ws := js_ws_of 957 (by decide +kernel) (by decide +kernel)
theorem kc_95 : js_code 95 ∈ js_ws := js_ws_of 967 (by decide +kernel) (by decide +kernel)
theorem kc_97 : js_code 97 ∈ js_ws := js_ws_of 717 (by decide +kernel) (by decide +kernel)
theorem kc_99 : js_code 99 ∈ js_ws := js_ws_of 815 (by decide +kernel) (by decide +kernel)
theorem kc_114 : js_code 114 ∈ js_ws := js_ws_of 315 (by decide +kernel) (by decide +kernel)
theorem kc_115 : js_code 115 ∈ js_ws := js_ws_of 318 (by decide +kernel) (by decide +kernel)
theorem kc_116 : js_code 116 ∈ js_ws := js_ws_of 639 (by decide +kernel) (by decide +kernel)
theorem kc_117 : js_code 117 ∈ js_ws := js_ws_of 689 (by decide +kernel) (by decide +kernel)
theorem kc_118 : js_code 118 ∈ js_ws := js_ws_of 501 (by decide +kernel) (by decide +kernel)
theorem kc_119 : js_code 119 ∈ js_ws := js_ws_of 498 (by decide +kernel) (by decide +kernel)
theorem kc_120 : js_code 120 ∈ js_ws := js_ws_of 506 (by decide +kernel) (by decide +kernel)
theorem kc_121 : js_code 121 ∈ js_ws := js_ws_of 542 (by decide +kernel) (by decide +kernel)
theorem kc_122 : js_code 122 ∈ js_ws := js_ws_of 664 (by decide +kernel) (by decide +kernel)
theorem kc_123 : js_code 123 ∈ js_ws := js_ws_of 920 (by decide +kernel) (by decide +kernel)
theorem kc_124 : js_code 124 ∈ js_ws := js_ws_of 1269 (by decide +kernel) (by decide +kernel)
theorem kc_125 : js_code 125 ∈ js_ws := js_ws_of 1437 (by decide +kernel) (by decide +kernel)
theorem kc_126 : js_code 126 ∈ js_ws := js_ws_of 311 (by decide +kernel) (by decide +kernel)
theorem kc_127 : js_code 127 ∈ js_ws := js_ws_of 308 (by decide +kernel) (by decide +kernel)
theorem kc_128 : js_code 128 ∈ js_ws := js_ws_of 550 (by decide +kernel) (by decide +kernel)
theorem kc_129 : js_code 129 ∈ js_ws := js_ws_of 724 (by decide +kernel) (by decide +kernel)
theorem kc_130 : js_code 130 ∈ js_ws := js_ws_of 1307 (by decide +kernel) (by decide +kernel)
theorem kc_131 : js_code 131 ∈ js_ws := js_ws_of 1428 (by decide +kernel) (by decide +kernel)
theorem kc_132 : js_code 132 ∈ js_ws := js_ws_of 844 (by decide +kernel) (by decide +kernel)
theorem kc_241 : js_code 241 ∈ js_ws := js_ws_of 1445 (by decide +kernel) (by decide +kernel)
theorem kc_242 : js_code 242 ∈ js_ws := js_ws_of 851 (by decide +kernel) (by decide +kernel)
theorem kc_244 : js_code 244 ∈ js_ws := js_ws_of 764 (by decide +kernel) (by decide +kernel)
theorem kc_245 : js_code 245 ∈ js_ws := js_ws_of 729 (by decide +kernel) (by decide +kernel)
theorem kc_246 : js_code 246 ∈ js_ws := js_ws_of 569 (by decide +kernel) (by decide +kernel)
theorem kc_247 : js_code 247 ∈ js_ws := js_ws_of 445 (by decide +kernel) (by decide +kernel)
theorem kc_248 : js_code 248 ∈ js_ws := js_ws_of 1110 (by decide +kernel) (by decide +kernel)
theorem kc_249 : js_code 249 ∈ js_ws := js_ws_of 1285 (by decide +kernel) (by decide +kernel)
theorem kc_250 : js_code 250 ∈ js_ws := js_ws_of 1114 (by decide +kernel) (by decide +kernel)
theorem kc_251 : js_code 251 ∈ js_ws := js_ws_of 1289 (by decide +kernel) (by decide +kernel)
theorem kc_252 : js_code 252 ∈ js_ws := js_ws_of 1168 (by decide +kernel) (by decide +kernel)
theorem kc_253 : js_code 253 ∈ js_ws := js_ws_of 1292 (by decide +kernel) (by decide +kernel)
theorem kc_254 : js_code 254 ∈ js_ws := js_ws_of 1171 (by decide +kernel) (by decide +kernel)
theorem kc_256 : js_code 256 ∈ js_ws := js_ws_of 1012 (by decide +kernel) (by decide +kernel)
theorem kc_261 : js_code 261 ∈ js_ws := js_ws_of 1042 (by decide +kernel) (by decide +kernel)
theorem kc_262 : js_code 262 ∈ js_ws := js_ws_of 1156 (by decide +kernel) (by decide +kernel)
theorem kc_263 : js_code 263 ∈ js_ws := js_ws_of 1216 (by decide +kernel) (by decide +kernel)
theorem kc_264 : js_code 264 ∈ js_ws := js_ws_of 1050 (by decide +kernel) (by decide +kernel)
theorem kc_265 : js_code 265 ∈ js_ws := js_ws_of 1054 (by decide +kernel) (by decide +kernel)
theorem kc_266 : js_code 266 ∈ js_ws := js_ws_of 1080 (by decide +kernel) (by decide +kernel)
theorem kc_267 : js_code 267 ∈ js_ws := js_ws_of 1188 (by decide +kernel) (by decide +kernel)
theorem kc_268 : js_code 268 ∈ js_ws := js_ws_of 1196 (by decide +kernel) (by decide +kernel)
theorem kc_269 : js_code 269 ∈ js_ws := js_ws_of 1194 (by decide +kernel) (by decide +kernel)
theorem kc_270 : js_code 270 ∈ js_ws := js_ws_of 1123 (by decide +kernel) (by decide +kernel)
theorem kc_271 : js_code 271 ∈ js_ws := js_ws_of 1119 (by decide +kernel) (by decide +kernel)
theorem kc_272 : js_code 272 ∈ js_ws := js_ws_of 1219 (by decide +kernel) (by decide +kernel)
theorem kc_273 : js_code 273 ∈ js_ws := js_ws_of 1222 (by decide +kernel) (by decide +kernel)
theorem kc_274 : js_code 274 ∈ js_ws := js_ws_of 1179 (by decide +kernel) (by decide +kernel)
theorem kc_275 : js_code 275 ∈ js_ws := js_ws_of 1182 (by decide +kernel) (by decide +kernel)
theorem kc_276 : js_code 276 ∈ js_ws := js_ws_of 1147 (by decide +kernel) (by decide +kernel)
theorem kc_277 : js_code 277 ∈ js_ws := js_ws_of 1159 (by decide +kernel) (by decide +kernel)
theorem kc_278 : js_code 278 ∈ js_ws := js_ws_of 1066 (by decide +kernel) (by decide +kernel)
theorem kc_279 : js_code 279 ∈ js_ws := js_ws_of 1200 (by decide +kernel) (by decide +kernel)
theorem kc_280 : js_code 280 ∈ js_ws := js_ws_of 1203 (by decide +kernel) (by decide +kernel)
theorem kc_281 : js_code 281 ∈ js_ws := js_ws_of 1206 (by decide +kernel) (by decide +kernel)
theorem kc_282 : js_code 282 ∈ js_ws := js_ws_of 1057 (by decide +kernel) (by decide +kernel)
theorem kl_0_0 : ((js_y 0).cls ≠ "java/lang/invoke/MethodHandle" ∧ (js_y 0).cls ≠ "java/lang/invoke/VarHandle" ∧ (parseMethodDescriptor (js_y 0).desc).map (fun d => d.parameters.length) = some 0) := by decide +kernel
theorem kl_1_1 : ((js_y 1).cls ≠ "java/lang/invoke/MethodHandle" ∧ (js_y 1).cls ≠ "java/lang/invoke/VarHandle" ∧ (parseMethodDescriptor (js_y 1).desc).map (fun d => d.parameters.length) = some 1) := by decide +kernel
theorem kl_2_1 : ((js_y 2).cls ≠ "java/lang/invoke/MethodHandle" ∧ (js_y 2).cls ≠ "java/lang/invoke/VarHandle" ∧ (parseMethodDescriptor (js_y 2).desc).map (fun d => d.parameters.length) = some 1) := by decide +kernel
theorem kl_3_1 : ((js_y 3).cls ≠ "java/lang/invoke/MethodHandle" ∧ (js_y 3).cls ≠ "java/lang/invoke/VarHandle" ∧ (parseMethodDescriptor (js_y 3).desc).map (fun d => d.parameters.length) = some 1) := by decide +kernel
theorem kl_4_0 : ((js_y 4).cls ≠ "java/lang/invoke/MethodHandle" ∧ (js_y 4).cls ≠ "java/lang/invoke/VarHandle" ∧ (parseMethodDescriptor (js_y 4).desc).map (fun d => d.parameters.length) = some 0) := by decide +kernel
theorem kl_5_1 : ((js_y 5).cls ≠ "java/lang/invoke/MethodHandle" ∧ (js_y 5).cls ≠ "java/lang/invoke/VarHandle" ∧ (parseMethodDescriptor (js_y 5).desc).map (fun d => d.parameters.length) = some 1) := by decide +kernel
theorem kl_6_5 : ((js_y 6).cls ≠ "java/lang/invoke/MethodHandle" ∧ (js_y 6).cls ≠ "java/lang/invoke/VarHandle" ∧ (parseMethodDescriptor (js_y 6).desc).map (fun d => d.parameters.length) = some 5) := by decide +kernel
theorem kl_7_1 : ((js_y 7).cls ≠ "java/lang/invoke/MethodHandle" ∧ (js_y 7).cls ≠ "java/lang/invoke/VarHandle" ∧ (parseMethodDescriptor (js_y 7).desc).map (fun d => d.parameters.length) = some 1) := by decide +kernel
theorem kl_8_3 : ((js_y 8).cls ≠ "java/lang/invoke/MethodHandle" ∧ (js_y 8).cls ≠ "java/lang/invoke/VarHandle" ∧ (parseMethodDescriptor (js_y 8).desc).map (fun d => d.parameters.length) = some 3) := by decide +kernel
theorem kl_9_2 : ((js_y 9).cls ≠ "java/lang/invoke/MethodHandle" ∧ (js_y 9).cls ≠ "java/lang/invoke/VarHandle" ∧ (parseMethodDescriptor (js_y 9).desc).map (fun d => d.parameters.length) = some 2) := by decide +kernel
theorem kl_10_1 : ((js_y 10).cls ≠ "java/lang/invoke/MethodHandle" ∧ (js_y 10).cls ≠ "java/lang/invoke/VarHandle" ∧ (parseMethodDescriptor (js_y 10).desc).map (fun d => d.parameters.length) = some 1) := by decide +kernel
theorem kl_11_2 : ((js_y 11).cls ≠ "java/lang/invoke/MethodHandle" ∧ (js_y 11).cls ≠ "java/lang/invoke/VarHandle" ∧ (parseMethodDescriptor (js_y 11).desc).map (fun d => d.parameters.length) = some 2) := by decide +kernel
theorem kl_12_2 : ((js_y 12).cls ≠ "java/lang/invoke/MethodHandle" ∧ (js_y 12).cls ≠ "java/lang/invoke/VarHandle" ∧ (parseMethodDescriptor (js_y 12).desc).map (fun d => d.parameters.length) = some 2) := by decide +kernel
theorem kl_13_2 : ((js_y 13).cls ≠ "java/lang/invoke/MethodHandle" ∧ (js_y 13).cls ≠ "java/lang/invoke/VarHandle" ∧ (parseMethodDescriptor (js_y 13).desc).map (fun d => d.parameters.length) = some 2) := by decide +kernel
theorem kl_14_1 : ((js_y 14).cls ≠ "java/lang/invoke/MethodHandle" ∧ (js_y 14).cls ≠ "java/lang/invoke/VarHandle" ∧ (parseMethodDescriptor (js_y 14).desc).map (fun d => d.parameters.length) = some 1) := by decide +kernel
theorem kl_15_1 : ((js_y 15).cls ≠ "java/lang/invoke/MethodHandle" ∧ (js_y 15).cls ≠ "java/lang/invoke/VarHandle" ∧ (parseMethodDescriptor (js_y 15).desc).map (fun d => d.parameters.length) = some 1) := by decide +kernel
theorem kl_16_3 : ((js_y 16).cls ≠ "java/lang/invoke/MethodHandle" ∧ (js_y 16).cls ≠ "java/lang/invoke/VarHandle" ∧ (parseMethodDescriptor (js_y 16).desc).map (fun d => d.parameters.length) = some 3) := by decide +kernel
theorem kl_17_2 : ((js_y 17).cls ≠ "java/lang/invoke/MethodHandle" ∧ (js_y 17).cls ≠ "java/lang/invoke/VarHandle" ∧ (parseMethodDescriptor (js_y 17).desc).map (fun d => d.parameters.length) = some 2) := by decide +kernel
theorem kl_18_1 : ((js_y 18).cls ≠ "java/lang/invoke/MethodHandle" ∧ (js_y 18).cls ≠ "java/lang/invoke/VarHandle" ∧ (parseMethodDescriptor (js_y 18).desc).map (fun d => d.parameters.length) = some 1) := by decide +kernel
theorem kl_19_0 : ((js_y 19).cls ≠ "java/lang/invoke/MethodHandle" ∧ (js_y 19).cls ≠ "java/lang/invoke/VarHandle" ∧ (parseMethodDescriptor (js_y 19).desc).map (fun d => d.parameters.length) = some 0) := by decide +kernel
theorem kl_20_0 : ((js_y 20).cls ≠ "java/lang/invoke/MethodHandle" ∧ (js_y 20).cls ≠ "java/lang/invoke/VarHandle" ∧ (parseMethodDescriptor (js_y 20).desc).map (fun d => d.parameters.length) = some 0) := by decide +kernel
theorem kl_21_0 : ((js_y 21).cls ≠ "java/lang/invoke/MethodHandle" ∧ (js_y 21).cls ≠ "java/lang/invoke/VarHandle" ∧ (parseMethodDescriptor (js_y 21).desc).map (fun d => d.parameters.length) = some 0) := by decide +kernel
theorem kl_22_1 : ((js_y 22).cls ≠ "java/lang/invoke/MethodHandle" ∧ (js_y 22).cls ≠ "java/lang/invoke/VarHandle" ∧ (parseMethodDescriptor (js_y 22).desc).map (fun d => d.parameters.length) = some 1) := by decide +kernel
theorem kl_23_1 : ((js_y 23).cls ≠ "java/lang/invoke/MethodHandle" ∧ (js_y 23).cls ≠ "java/lang/invoke/VarHandle" ∧ (parseMethodDescriptor (js_y 23).desc).map (fun d => d.parameters.length) = some 1) := by decide +kernel
theorem kl_24_0 : ((js_y 24).cls ≠ "java/lang/invoke/MethodHandle" ∧ (js_y 24).cls ≠ "java/lang/invoke/VarHandle" ∧ (parseMethodDescriptor (js_y 24).desc).map (fun d => d.parameters.length) = some 0) := by decide +kernel
theorem kl_25_2 : ((js_y 25).cls ≠ "java/lang/invoke/MethodHandle" ∧ (js_y 25).cls ≠ "java/lang/invoke/VarHandle" ∧ (parseMethodDescriptor (js_y 25).desc).map (fun d => d.parameters.length) = some 2) := by decide +kernel
theorem kl_26_1 : ((js_y 26).cls ≠ "java/lang/invoke/MethodHandle" ∧ (js_y 26).cls ≠ "java/lang/invoke/VarHandle" ∧ (parseMethodDescriptor (js_y 26).desc).map (fun d => d.parameters.length) = some 1) := by decide +kernel
theorem kl_27_1 : ((js_y 27).cls ≠ "java/lang/invoke/MethodHandle" ∧ (js_y 27).cls ≠ "java/lang/invoke/VarHandle" ∧ (parseMethodDescriptor (js_y 27).desc).map (fun d => d.parameters.length) = some 1) := by decide +kernel
theorem kl_28_1 : ((js_y 28).cls ≠ "java/lang/invoke/MethodHandle" ∧ (js_y 28).cls ≠ "java/lang/invoke/VarHandle" ∧ (parseMethodDescriptor (js_y 28).desc).map (fun d => d.parameters.length) = some 1) := by decide +kernel
theorem kl_29_3 : ((js_y 29).cls ≠ "java/lang/invoke/MethodHandle" ∧ (js_y 29).cls ≠ "java/lang/invoke/VarHandle" ∧ (parseMethodDescriptor (js_y 29).desc).map (fun d => d.parameters.length) = some 3) := by decide +kernel
theorem kl_30_1 : ((js_y 30).cls ≠ "java/lang/invoke/MethodHandle" ∧ (js_y 30).cls ≠ "java/lang/invoke/VarHandle" ∧ (parseMethodDescriptor (js_y 30).desc).map (fun d => d.parameters.length) = some 1) := by decide +kernel
theorem kl_31_0 : ((js_y 31).cls ≠ "java/lang/invoke/MethodHandle" ∧ (js_y 31).cls ≠ "java/lang/invoke/VarHandle" ∧ (parseMethodDescriptor (js_y 31).desc).map (fun d => d.parameters.length) = some 0) := by decide +kernel
theorem kl_32_2 : ((js_y 32).cls ≠ "java/lang/invoke/MethodHandle" ∧ (js_y 32).cls ≠ "java/lang/invoke/VarHandle" ∧ (parseMethodDescriptor (js_y 32).desc).map (fun d => d.parameters.length) = some 2) := by decide +kernel
theorem kl_33_2 : ((js_y 33).cls ≠ "java/lang/invoke/MethodHandle" ∧ (js_y 33).cls ≠ "java/lang/invoke/VarHandle" ∧ (parseMethodDescriptor (js_y 33).desc).map (fun d => d.parameters.length) = some 2) := by decide +kernel
theorem kl_34_1 : ((js_y 34).cls ≠ "java/lang/invoke/MethodHandle" ∧ (js_y 34).cls ≠ "java/lang/invoke/VarHandle" ∧ (parseMethodDescriptor (js_y 34).desc).map (fun d => d.parameters.length) = some 1) := by decide +kernel
theorem kl_35_1 : ((js_y 35).cls ≠ "java/lang/invoke/MethodHandle" ∧ (js_y 35).cls ≠ "java/lang/invoke/VarHandle" ∧ (parseMethodDescriptor (js_y 35).desc).map (fun d => d.parameters.length) = some 1) := by decide +kernel
theorem kl_36_2 : ((js_y 36).cls ≠ "java/lang/invoke/MethodHandle" ∧ (js_y 36).cls ≠ "java/lang/invoke/VarHandle" ∧ (parseMethodDescriptor (js_y 36).desc).map (fun d => d.parameters.length) = some 2) := by decide +kernel
theorem kl_37_2 : ((js_y 37).cls ≠ "java/lang/invoke/MethodHandle" ∧ (js_y 37).cls ≠ "java/lang/invoke/VarHandle" ∧ (parseMethodDescriptor (js_y 37).desc).map (fun d => d.parameters.length) = some 2) := by decide +kernel
theorem kl_38_2 : ((js_y 38).cls ≠ "java/lang/invoke/MethodHandle" ∧ (js_y 38).cls ≠ "java/lang/invoke/VarHandle" ∧ (parseMethodDescriptor (js_y 38).desc).map (fun d => d.parameters.length) = some 2) := by decide +kernel
theorem kl_39_2 : ((js_y 39).cls ≠ "java/lang/invoke/MethodHandle" ∧ (js_y 39).cls ≠ "java/lang/invoke/VarHandle" ∧ (parseMethodDescriptor (js_y 39).desc).map (fun d => d.parameters.length) = some 2) := by decide +kernel
theorem kl_40_1 : ((js_y 40).cls ≠ "java/lang/invoke/MethodHandle" ∧ (js_y 40).cls ≠ "java/lang/invoke/VarHandle" ∧ (parseMethodDescriptor (js_y 40).desc).map (fun d => d.parameters.length) = some 1) := by decide +kernel
theorem kl_41_1 : ((js_y 41).cls ≠ "java/lang/invoke/MethodHandle" ∧ (js_y 41).cls ≠ "java/lang/invoke/VarHandle" ∧ (parseMethodDescriptor (js_y 41).desc).map (fun d => d.parameters.length) = some 1) := by decide +kernel
theorem kl_42_0 : ((js_y 42).cls ≠ "java/lang/invoke/MethodHandle" ∧ (js_y 42).cls ≠ "java/lang/invoke/VarHandle" ∧ (parseMethodDescriptor (js_y 42).desc).map (fun d => d.parameters.length) = some 0) := by decide +kernel
theorem kl_43_1 : ((js_y 43).cls ≠ "java/lang/invoke/MethodHandle" ∧ (js_y 43).cls ≠ "java/lang/invoke/VarHandle" ∧ (parseMethodDescriptor (js_y 43).desc).map (fun d => d.parameters.length) = some 1) := by decide +kernel
theorem kl_44_0 : ((js_y 44).cls ≠ "java/lang/invoke/MethodHandle" ∧ (js_y 44).cls ≠ "java/lang/invoke/VarHandle" ∧ (parseMethodDescriptor (js_y 44).desc).map (fun d => d.parameters.length) = some 0) := by decide +kernel
theorem kl_45_0 : ((js_y 45).cls ≠ "java/lang/invoke/MethodHandle" ∧ (js_y 45).cls ≠ "java/lang/invoke/VarHandle" ∧ (parseMethodDescriptor (js_y 45).desc).map (fun d => d.parameters.length) = some 0) := by decide +kernel
theorem kl_46_0 : ((js_y 46).cls ≠ "java/lang/invoke/MethodHandle" ∧ (js_y 46).cls ≠ "java/lang/invoke/VarHandle" ∧ (parseMethodDescriptor (js_y 46).desc).map (fun d => d.parameters.length) = some 0) := by decide +kernel
theorem kl_48_0 : ((js_y 48).cls ≠ "java/lang/invoke/MethodHandle" ∧ (js_y 48).cls ≠ "java/lang/invoke/VarHandle" ∧ (parseMethodDescriptor (js_y 48).desc).map (fun d => d.parameters.length) = some 0) := by decide +kernel
theorem kl_49_0 : ((js_y 49).cls ≠ "java/lang/invoke/MethodHandle" ∧ (js_y 49).cls ≠ "java/lang/invoke/VarHandle" ∧ (parseMethodDescriptor (js_y 49).desc).map (fun d => d.parameters.length) = some 0) := by decide +kernel
theorem kl_50_1 : ((js_y 50).cls ≠ "java/lang/invoke/MethodHandle" ∧ (js_y 50).cls ≠ "java/lang/invoke/VarHandle" ∧ (parseMethodDescriptor (js_y 50).desc).map (fun d => d.parameters.length) = some 1) := by decide +kernel
theorem kl_51_0 : ((js_y 51).cls ≠ "java/lang/invoke/MethodHandle" ∧ (js_y 51).cls ≠ "java/lang/invoke/VarHandle" ∧ (parseMethodDescriptor (js_y 51).desc).map (fun d => d.parameters.length) = some 0) := by decide +kernel
theorem kl_52_0 : ((js_y 52).cls ≠ "java/lang/invoke/MethodHandle" ∧ (js_y 52).cls ≠ "java/lang/invoke/VarHandle" ∧ (parseMethodDescriptor (js_y 52).desc).map (fun d => d.parameters.length) = some 0) := by decide +kernel
theorem kl_53_1 : ((js_y 53).cls ≠ "java/lang/invoke/MethodHandle" ∧ (js_y 53).cls ≠ "java/lang/invoke/VarHandle" ∧ (parseMethodDescriptor (js_y 53).desc).map (fun d => d.parameters.length) = some 1) := by decide +kernel
theorem kl_54_0 : ((js_y 54).cls ≠ "java/lang/invoke/MethodHandle" ∧ (js_y 54).cls ≠ "java/lang/invoke/VarHandle" ∧ (parseMethodDescriptor (js_y 54).desc).map (fun d => d.parameters.length) = some 0) := by decide +kernel
theorem kl_55_1 : ((js_y 55).cls ≠ "java/lang/invoke/MethodHandle" ∧ (js_y 55).cls ≠ "java/lang/invoke/VarHandle" ∧ (parseMethodDescriptor (js_y 55).desc).map (fun d => d.parameters.length) = some 1) := by decide +kernel
theorem kl_56_0 : ((js_y 56).cls ≠ "java/lang/invoke/MethodHandle" ∧ (js_y 56).cls ≠ "java/lang/invoke/VarHandle" ∧ (parseMethodDescriptor (js_y 56).desc).map (fun d => d.parameters.length) = some 0) := by decide +kernel
theorem kl_57_1 : ((js_y 57).cls ≠ "java/lang/invoke/MethodHandle" ∧ (js_y 57).cls ≠ "java/lang/invoke/VarHandle" ∧ (parseMethodDescriptor (js_y 57).desc).map (fun d => d.parameters.length) = some 1) := by decide +kernel
theorem kl_58_2 : ((js_y 58).cls ≠ "java/lang/invoke/MethodHandle" ∧ (js_y 58).cls ≠ "java/lang/invoke/VarHandle" ∧ (parseMethodDescriptor (js_y 58).desc).map (fun d => d.parameters.length) = some 2) := by decide +kernel
theorem kl_80_0 : ((js_y 80).cls ≠ "java/lang/invoke/MethodHandle" ∧ (js_y 80).cls ≠ "java/lang/invoke/VarHandle" ∧ (parseMethodDescriptor (js_y 80).desc).map (fun d => d.parameters.length) = some 0) := by decide +kernel
theorem kl_82_0 : ((js_y 82).cls ≠ "java/lang/invoke/MethodHandle" ∧ (js_y 82).cls ≠ "java/lang/invoke/VarHandle" ∧ (parseMethodDescriptor (js_y 82).desc).map (fun d => d.parameters.length) = some 0) := by decide +kernel
theorem kl_83_0 : ((js_y 83).cls ≠ "java/lang/invoke/MethodHandle" ∧ (js_y 83).cls ≠ "java/lang/invoke/VarHandle" ∧ (parseMethodDescriptor (js_y 83).desc).map (fun d => d.parameters.length) = some 0) := by decide +kernel
theorem kl_94_0 : ((js_y 94).cls ≠ "java/lang/invoke/MethodHandle" ∧ (js_y 94).cls ≠ "java/lang/invoke/VarHandle" ∧ (parseMethodDescriptor (js_y 94).desc).map (fun d => d.parameters.length) = some 0) := by decide +kernel
theorem kl_95_0 : ((js_y 95).cls ≠ "java/lang/invoke/MethodHandle" ∧ (js_y 95).cls ≠ "java/lang/invoke/VarHandle" ∧ (parseMethodDescriptor (js_y 95).desc).map (fun d => d.parameters.length) = some 0) := by decide +kernel
theorem kl_97_1 : ((js_y 97).cls ≠ "java/lang/invoke/MethodHandle" ∧ (js_y 97).cls ≠ "java/lang/invoke/VarHandle" ∧ (parseMethodDescriptor (js_y 97).desc).map (fun d => d.parameters.length) = some 1) := by decide +kernel
theorem kl_99_0 : ((js_y 99).cls ≠ "java/lang/invoke/MethodHandle" ∧ (js_y 99).cls ≠ "java/lang/invoke/VarHandle" ∧ (parseMethodDescriptor (js_y 99).desc).map (fun d => d.parameters.length) = some 0) := by decide +kernel
theorem kl_114_1 : ((js_y 114).cls ≠ "java/lang/invoke/MethodHandle" ∧ (js_y 114).cls ≠ "java/lang/invoke/VarHandle" ∧ (parseMethodDescriptor (js_y 114).desc).map (fun d => d.parameters.length) = some 1) := by decide +kernel
theorem kl_115_1 : ((js_y 115).cls ≠ "java/lang/invoke/MethodHandle" ∧ (js_y 115).cls ≠ "java/lang/invoke/VarHandle" ∧ (parseMethodDescriptor (js_y 115).desc).map (fun d => d.parameters.length) = some 1) := by decide +kernel
theorem kl_116_1 : ((js_y 116).cls ≠ "java/lang/invoke/MethodHandle" ∧ (js_y 116).cls ≠ "java/lang/invoke/VarHandle" ∧ (parseMethodDescriptor (js_y 116).desc).map (fun d => d.parameters.length) = some 1) := by decide +kernel
theorem kl_117_1 : ((js_y 117).cls ≠ "java/lang/invoke/MethodHandle" ∧ (js_y 117).cls ≠ "java/lang/invoke/VarHandle" ∧ (parseMethodDescriptor (js_y 117).desc).map (fun d => d.parameters.length) = some 1) := by decide +kernel
theorem kl_118_2 : ((js_y 118).cls ≠ "java/lang/invoke/MethodHandle" ∧ (js_y 118).cls ≠ "java/lang/invoke/VarHandle" ∧ (parseMethodDescriptor (js_y 118).desc).map (fun d => d.parameters.length) = some 2) := by decide +kernel
theorem kl_119_2 : ((js_y 119).cls ≠ "java/lang/invoke/MethodHandle" ∧ (js_y 119).cls ≠ "java/lang/invoke/VarHandle" ∧ (parseMethodDescriptor (js_y 119).desc).map (fun d => d.parameters.length) = some 2) := by decide +kernel
theorem kl_120_1 : ((js_y 120).cls ≠ "java/lang/invoke/MethodHandle" ∧ (js_y 120).cls ≠ "java/lang/invoke/VarHandle" ∧ (parseMethodDescriptor (js_y 120).desc).map (fun d => d.parameters.length) = some 1) := by decide +kernel
theorem kl_121_2 : ((js_y 121).cls ≠ "java/lang/invoke/MethodHandle" ∧ (js_y 121).cls ≠ "java/lang/invoke/VarHandle" ∧ (parseMethodDescriptor (js_y 121).desc).map (fun d => d.parameters.length) = some 2) := by decide +kernel
theorem kl_122_1 : ((js_y 122).cls ≠ "java/lang/invoke/MethodHandle" ∧ (js_y 122).cls ≠ "java/lang/invoke/VarHandle" ∧ (parseMethodDescriptor (js_y 122).desc).map (fun d => d.parameters.length) = some 1) := by decide +kernel
theorem kl_123_1 : ((js_y 123).cls ≠ "java/lang/invoke/MethodHandle" ∧ (js_y 123).cls ≠ "java/lang/invoke/VarHandle" ∧ (parseMethodDescriptor (js_y 123).desc).map (fun d => d.parameters.length) = some 1) := by decide +kernel
theorem kl_124_1 : ((js_y 124).cls ≠ "java/lang/invoke/MethodHandle" ∧ (js_y 124).cls ≠ "java/lang/invoke/VarHandle" ∧ (parseMethodDescriptor (js_y 124).desc).map (fun d => d.parameters.length) = some 1) := by decide +kernel
theorem kl_125_1 : ((js_y 125).cls ≠ "java/lang/invoke/MethodHandle" ∧ (js_y 125).cls ≠ "java/lang/invoke/VarHandle" ∧ (parseMethodDescriptor (js_y 125).desc).map (fun d => d.parameters.length) = some 1) := by decide +kernel
theorem kl_126_2 : ((js_y 126).cls ≠ "java/lang/invoke/MethodHandle" ∧ (js_y 126).cls ≠ "java/lang/invoke/VarHandle" ∧ (parseMethodDescriptor (js_y 126).desc).map (fun d => d.parameters.length) = some 2) := by decide +kernel
theorem kl_127_1 : ((js_y 127).cls ≠ "java/lang/invoke/MethodHandle" ∧ (js_y 127).cls ≠ "java/lang/invoke/VarHandle" ∧ (parseMethodDescriptor (js_y 127).desc).map (fun d => d.parameters.length) = some 1) := by decide +kernel
theorem kl_128_1 : ((js_y 128).cls ≠ "java/lang/invoke/MethodHandle" ∧ (js_y 128).cls ≠ "java/lang/invoke/VarHandle" ∧ (parseMethodDescriptor (js_y 128).desc).map (fun d => d.parameters.length) = some 1) := by decide +kernel
theorem kl_129_1 : ((js_y 129).cls ≠ "java/lang/invoke/MethodHandle" ∧ (js_y 129).cls ≠ "java/lang/invoke/VarHandle" ∧ (parseMethodDescriptor (js_y 129).desc).map (fun d => d.parameters.length) = some 1) := by decide +kernel
theorem kl_130_1 : ((js_y 130).cls ≠ "java/lang/invoke/MethodHandle" ∧ (js_y 130).cls ≠ "java/lang/invoke/VarHandle" ∧ (parseMethodDescriptor (js_y 130).desc).map (fun d => d.parameters.length) = some 1) := by decide +kernel
theorem kl_131_1 : ((js_y 131).cls ≠ "java/lang/invoke/MethodHandle" ∧ (js_y 131).cls ≠ "java/lang/invoke/VarHandle" ∧ (parseMethodDescriptor (js_y 131).desc).map (fun d => d.parameters.length) = some 1) := by decide +kernel
theorem kl_132_1 : ((js_y 132).cls ≠ "java/lang/invoke/MethodHandle" ∧ (js_y 132).cls ≠ "java/lang/invoke/VarHandle" ∧ (parseMethodDescriptor (js_y 132).desc).map (fun d => d.parameters.length) = some 1) := by decide +kernel
theorem kl_241_0 : ((js_y 241).cls ≠ "java/lang/invoke/MethodHandle" ∧ (js_y 241).cls ≠ "java/lang/invoke/VarHandle" ∧ (parseMethodDescriptor (js_y 241).desc).map (fun d => d.parameters.length) = some 0) := by decide +kernel
theorem kl_242_1 : ((js_y 242).cls ≠ "java/lang/invoke/MethodHandle" ∧ (js_y 242).cls ≠ "java/lang/invoke/VarHandle" ∧ (parseMethodDescriptor (js_y 242).desc).map (fun d => d.parameters.length) = some 1) := by decide +kernel
theorem kl_244_1 : ((js_y 244).cls ≠ "java/lang/invoke/MethodHandle" ∧ (js_y 244).cls ≠ "java/lang/invoke/VarHandle" ∧ (parseMethodDescriptor (js_y 244).desc).map (fun d => d.parameters.length) = some 1) := by decide +kernel
theorem kl_245_1 : ((js_y 245).cls ≠ "java/lang/invoke/MethodHandle" ∧ (js_y 245).cls ≠ "java/lang/invoke/VarHandle" ∧ (parseMethodDescriptor (js_y 245).desc).map (fun d => d.parameters.length) = some 1) := by decide +kernel
theorem kl_246_2 : ((js_y 246).cls ≠ "java/lang/invoke/MethodHandle" ∧ (js_y 246).cls ≠ "java/lang/invoke/VarHandle" ∧ (parseMethodDescriptor (js_y 246).desc).map (fun d => d.parameters.length) = some 2) := by decide +kernel
theorem kl_247_2 : ((js_y 247).cls ≠ "java/lang/invoke/MethodHandle" ∧ (js_y 247).cls ≠ "java/lang/invoke/VarHandle" ∧ (parseMethodDescriptor (js_y 247).desc).map (fun d => d.parameters.length) = some 2) := by decide +kernel
theorem kl_248_0 : ((js_y 248).cls ≠ "java/lang/invoke/MethodHandle" ∧ (js_y 248).cls ≠ "java/lang/invoke/VarHandle" ∧ (parseMethodDescriptor (js_y 248).desc).map (fun d => d.parameters.length) = some 0) := by decide +kernel
theorem kl_249_1 : ((js_y 249).cls ≠ "java/lang/invoke/MethodHandle" ∧ (js_y 249).cls ≠ "java/lang/invoke/VarHandle" ∧ (parseMethodDescriptor (js_y 249).desc).map (fun d => d.parameters.length) = some 1) := by decide +kernel
theorem kl_250_0 : ((js_y 250).cls ≠ "java/lang/invoke/MethodHandle" ∧ (js_y 250).cls ≠ "java/lang/invoke/VarHandle" ∧ (parseMethodDescriptor (js_y 250).desc).map (fun d => d.parameters.length) = some 0) := by decide +kernel
theorem kl_251_0 : ((js_y 251).cls ≠ "java/lang/invoke/MethodHandle" ∧ (js_y 251).cls ≠ "java/lang/invoke/VarHandle" ∧ (parseMethodDescriptor (js_y 251).desc).map (fun d => d.parameters.length) = some 0) := by decide +kernel
theorem kl_252_2 : ((js_y 252).cls ≠ "java/lang/invoke/MethodHandle" ∧ (js_y 252).cls ≠ "java/lang/invoke/VarHandle" ∧ (parseMethodDescriptor (js_y 252).desc).map (fun d => d.parameters.length) = some 2) := by decide +kernel
theorem kl_253_2 : ((js_y 253).cls ≠ "java/lang/invoke/MethodHandle" ∧ (js_y 253).cls ≠ "java/lang/invoke/VarHandle" ∧ (parseMethodDescriptor (js_y 253).desc).map (fun d => d.parameters.length) = some 2) := by decide +kernel
theorem kl_254_3 : ((js_y 254).cls ≠ "java/lang/invoke/MethodHandle" ∧ (js_y 254).cls ≠ "java/lang/invoke/VarHandle" ∧ (parseMethodDescriptor (js_y 254).desc).map (fun d => d.parameters.length) = some 3) := by decide +kernel
theorem kl_256_1 : ((js_y 256).cls ≠ "java/lang/invoke/MethodHandle" ∧ (js_y 256).cls ≠ "java/lang/invoke/VarHandle" ∧ (parseMethodDescriptor (js_y 256).desc).map (fun d => d.parameters.length) = some 1) := by decide +kernel
theorem kl_261_1 : ((js_y 261).cls ≠ "java/lang/invoke/MethodHandle" ∧ (js_y 261).cls ≠ "java/lang/invoke/VarHandle" ∧ (parseMethodDescriptor (js_y 261).desc).map (fun d => d.parameters.length) = some 1) := by decide +kernel
theorem kl_262_1 : ((js_y 262).cls ≠ "java/lang/invoke/MethodHandle" ∧ (js_y 262).cls ≠ "java/lang/invoke/VarHandle" ∧ (parseMethodDescriptor (js_y 262).desc).map (fun d => d.parameters.length) = some 1) := by decide +kernel
theorem kl_263_1 : ((js_y 263).cls ≠ "java/lang/invoke/MethodHandle" ∧ (js_y 263).cls ≠ "java/lang/invoke/VarHandle" ∧ (parseMethodDescriptor (js_y 263).desc).map (fun d => d.parameters.length) = some 1) := by decide +kernel
theorem kl_264_1 : ((js_y 264).cls ≠ "java/lang/invoke/MethodHandle" ∧ (js_y 264).cls ≠ "java/lang/invoke/VarHandle" ∧ (parseMethodDescriptor (js_y 264).desc).map (fun d => d.parameters.length) = some 1) := by decide +kernel
theorem kl_265_1 : ((js_y 265).cls ≠ "java/lang/invoke/MethodHandle" ∧ (js_y 265).cls ≠ "java/lang/invoke/VarHandle" ∧ (parseMethodDescriptor (js_y 265).desc).map (fun d => d.parameters.length) = some 1) := by decide +kernel
theorem kl_266_0 : ((js_y 266).cls ≠ "java/lang/invoke/MethodHandle" ∧ (js_y 266).cls ≠ "java/lang/invoke/VarHandle" ∧ (parseMethodDescriptor (js_y 266).desc).map (fun d => d.parameters.length) = some 0) := by decide +kernel
theorem kl_267_0 : ((js_y 267).cls ≠ "java/lang/invoke/MethodHandle" ∧ (js_y 267).cls ≠ "java/lang/invoke/VarHandle" ∧ (parseMethodDescriptor (js_y 267).desc).map (fun d => d.parameters.length) = some 0) := by decide +kernel
theorem kl_268_0 : ((js_y 268).cls ≠ "java/lang/invoke/MethodHandle" ∧ (js_y 268).cls ≠ "java/lang/invoke/VarHandle" ∧ (parseMethodDescriptor (js_y 268).desc).map (fun d => d.parameters.length) = some 0) := by decide +kernel
theorem kl_269_0 : ((js_y 269).cls ≠ "java/lang/invoke/MethodHandle" ∧ (js_y 269).cls ≠ "java/lang/invoke/VarHandle" ∧ (parseMethodDescriptor (js_y 269).desc).map (fun d => d.parameters.length) = some 0) := by decide +kernel
theorem kl_270_1 : ((js_y 270).cls ≠ "java/lang/invoke/MethodHandle" ∧ (js_y 270).cls ≠ "java/lang/invoke/VarHandle" ∧ (parseMethodDescriptor (js_y 270).desc).map (fun d => d.parameters.length) = some 1) := by decide +kernel
theorem kl_271_2 : ((js_y 271).cls ≠ "java/lang/invoke/MethodHandle" ∧ (js_y 271).cls ≠ "java/lang/invoke/VarHandle" ∧ (parseMethodDescriptor (js_y 271).desc).map (fun d => d.parameters.length) = some 2) := by decide +kernel
theorem kl_272_1 : ((js_y 272).cls ≠ "java/lang/invoke/MethodHandle" ∧ (js_y 272).cls ≠ "java/lang/invoke/VarHandle" ∧ (parseMethodDescriptor (js_y 272).desc).map (fun d => d.parameters.length) = some 1) := by decide +kernel
theorem kl_273_3 : ((js_y 273).cls ≠ "java/lang/invoke/MethodHandle" ∧ (js_y 273).cls ≠ "java/lang/invoke/VarHandle" ∧ (parseMethodDescriptor (js_y 273).desc).map (fun d => d.parameters.length) = some 3) := by decide +kernel
theorem kl_274_1 : ((js_y 274).cls ≠ "java/lang/invoke/MethodHandle" ∧ (js_y 274).cls ≠ "java/lang/invoke/VarHandle" ∧ (parseMethodDescriptor (js_y 274).desc).map (fun d => d.parameters.length) = some 1) := by decide +kernel
theorem kl_275_2 : ((js_y 275).cls ≠ "java/lang/invoke/MethodHandle" ∧ (js_y 275).cls ≠ "java/lang/invoke/VarHandle" ∧ (parseMethodDescriptor (js_y 275).desc).map (fun d => d.parameters.length) = some 2) := by decide +kernel
theorem kl_276_3 : ((js_y 276).cls ≠ "java/lang/invoke/MethodHandle" ∧ (js_y 276).cls ≠ "java/lang/invoke/VarHandle" ∧ (parseMethodDescriptor (js_y 276).desc).map (fun d => d.parameters.length) = some 3) := by decide +kernel
theorem kl_277_1 : ((js_y 277).cls ≠ "java/lang/invoke/MethodHandle" ∧ (js_y 277).cls ≠ "java/lang/invoke/VarHandle" ∧ (parseMethodDescriptor (js_y 277).desc).map (fun d => d.parameters.length) = some 1) := by decide +kernel
theorem kl_278_2 : ((js_y 278).cls ≠ "java/lang/invoke/MethodHandle" ∧ (js_y 278).cls ≠ "java/lang/invoke/VarHandle" ∧ (parseMethodDescriptor (js_y 278).desc).map (fun d => d.parameters.length) = some 2) := by decide +kernel
theorem kl_279_3 : ((js_y 279).cls ≠ "java/lang/invoke/MethodHandle" ∧ (js_y 279).cls ≠ "java/lang/invoke/VarHandle" ∧ (parseMethodDescriptor (js_y 279).desc).map (fun d => d.parameters.length) = some 3) := by decide +kernel
theorem kl_280_3 : ((js_y 280).cls ≠ "java/lang/invoke/MethodHandle" ∧ (js_y 280).cls ≠ "java/lang/invoke/VarHandle" ∧ (parseMethodDescriptor (js_y 280).desc).map (fun d => d.parameters.length) = some 3) := by decide +kernel
theorem kl_281_2 : ((js_y 281).cls ≠ "java/lang/invoke/MethodHandle" ∧ (js_y 281).cls ≠ "java/lang/invoke/VarHandle" ∧ (parseMethodDescriptor (js_y 281).desc).map (fun d => d.parameters.length) = some 2) := by decide +kernel
theorem kl_282_3 : ((js_y 282).cls ≠ "java/lang/invoke/MethodHandle" ∧ (js_y 282).cls ≠ "java/lang/invoke/VarHandle" ∧ (parseMethodDescriptor (js_y 282).desc).map (fun d => d.parameters.length) = some 3) := by decide +kernel
theorem kw_22 : (Jvm.Cond.initialized "MosaicCatalogue") ∈ js_ws := js_ws_of 22 (by decide +kernel) (by decide +kernel)
theorem kw_40 : (Jvm.Cond.initialized "java/lang/Math") ∈ js_ws := js_ws_of 40 (by decide +kernel) (by decide +kernel)
theorem kw_45 : (Jvm.Cond.initialized "java/lang/Long") ∈ js_ws := js_ws_of 45 (by decide +kernel) (by decide +kernel)
theorem kw_46 : (Jvm.Cond.initialized "java/lang/Integer") ∈ js_ws := js_ws_of 46 (by decide +kernel) (by decide +kernel)
theorem kw_30 : (Jvm.Cond.initialized "java/lang/Enum") ∈ js_ws := js_ws_of 30 (by decide +kernel) (by decide +kernel)
theorem kw_55 : (Jvm.Cond.initialized "java/lang/StringLatin1") ∈ js_ws := js_ws_of 55 (by decide +kernel) (by decide +kernel)
theorem kw_54 : (Jvm.Cond.initialized "jdk/internal/util/Preconditions") ∈ js_ws := js_ws_of 54 (by decide +kernel) (by decide +kernel)
theorem kw_49 : (Jvm.Cond.initialized "java/lang/AbstractStringBuilder") ∈ js_ws := js_ws_of 49 (by decide +kernel) (by decide +kernel)
theorem kw_53 : (Jvm.Cond.initialized "java/util/Arrays") ∈ js_ws := js_ws_of 53 (by decide +kernel) (by decide +kernel)
theorem kw_52 : (Jvm.Cond.initialized "jdk/internal/util/ArraysSupport") ∈ js_ws := js_ws_of 52 (by decide +kernel) (by decide +kernel)
theorem kw_50 : (Jvm.Cond.initialized "java/lang/StringBuilder") ∈ js_ws := js_ws_of 50 (by decide +kernel) (by decide +kernel)
theorem kk_0_20 : js_lk 0 20 0 := ⟨kc_20, kw_24, kl_20_0, Nat.le_of_ble_eq_true rfl, Nat.le_of_ble_eq_true rfl⟩
theorem kk_1_21 : js_lk 1 21 0 := ⟨kc_21, kw_24, kl_21_0, Nat.le_of_ble_eq_true rfl, Nat.le_of_ble_eq_true rfl⟩
theorem kk_1_23 : js_lk 1 23 1 := ⟨kc_23, kw_24, kl_23_1, Nat.le_of_ble_eq_true rfl, Nat.le_of_ble_eq_true rfl⟩
theorem kk_3_2 : js_lk 3 2 1 := ⟨kc_2, kw_23, kl_2_1, Nat.le_of_ble_eq_true rfl, Nat.le_of_ble_eq_true rfl⟩
theorem kk_4_21 : js_lk 4 21 0 := ⟨kc_21, kw_24, kl_21_0, Nat.le_of_ble_eq_true rfl, Nat.le_of_ble_eq_true rfl⟩
theorem kk_5_21 : js_lk 5 21 0 := ⟨kc_21, kw_24, kl_21_0, Nat.le_of_ble_eq_true rfl, Nat.le_of_ble_eq_true rfl⟩
theorem kk_6_126 : js_lk 6 126 2 := ⟨kc_126, kw_22, kl_126_2, Nat.le_of_ble_eq_true rfl, Nat.le_of_ble_eq_true rfl⟩
theorem kk_6_127 : js_lk 6 127 1 := ⟨kc_127, kw_22, kl_127_1, Nat.le_of_ble_eq_true rfl, Nat.le_of_ble_eq_true rfl⟩
theorem kk_7_2 : js_lk 7 2 1 := ⟨kc_2, kw_23, kl_2_1, Nat.le_of_ble_eq_true rfl, Nat.le_of_ble_eq_true rfl⟩
theorem kk_7_21 : js_lk 7 21 0 := ⟨kc_21, kw_24, kl_21_0, Nat.le_of_ble_eq_true rfl, Nat.le_of_ble_eq_true rfl⟩
theorem kk_8_3 : js_lk 8 3 1 := ⟨kc_3, kw_23, kl_3_1, Nat.le_of_ble_eq_true rfl, Nat.le_of_ble_eq_true rfl⟩
theorem kk_8_9 : js_lk 8 9 2 := ⟨kc_9, kw_23, kl_9_2, Nat.le_of_ble_eq_true rfl, Nat.le_of_ble_eq_true rfl⟩
theorem kk_8_17 : js_lk 8 17 2 := ⟨kc_17, kw_23, kl_17_2, Nat.le_of_ble_eq_true rfl, Nat.le_of_ble_eq_true rfl⟩
theorem kk_8_21 : js_lk 8 21 0 := ⟨kc_21, kw_24, kl_21_0, Nat.le_of_ble_eq_true rfl, Nat.le_of_ble_eq_true rfl⟩
theorem kk_8_126 : js_lk 8 126 2 := ⟨kc_126, kw_22, kl_126_2, Nat.le_of_ble_eq_true rfl, Nat.le_of_ble_eq_true rfl⟩
theorem kk_10_3 : js_lk 10 3 1 := ⟨kc_3, kw_23, kl_3_1, Nat.le_of_ble_eq_true rfl, Nat.le_of_ble_eq_true rfl⟩
theorem kk_10_17 : js_lk 10 17 2 := ⟨kc_17, kw_23, kl_17_2, Nat.le_of_ble_eq_true rfl, Nat.le_of_ble_eq_true rfl⟩
theorem kk_10_21 : js_lk 10 21 0 := ⟨kc_21, kw_24, kl_21_0, Nat.le_of_ble_eq_true rfl, Nat.le_of_ble_eq_true rfl⟩
theorem kk_11_3 : js_lk 11 3 1 := ⟨kc_3, kw_23, kl_3_1, Nat.le_of_ble_eq_true rfl, Nat.le_of_ble_eq_true rfl⟩
theorem kk_11_126 : js_lk 11 126 2 := ⟨kc_126, kw_22, kl_126_2, Nat.le_of_ble_eq_true rfl, Nat.le_of_ble_eq_true rfl⟩
theorem kk_12_3 : js_lk 12 3 1 := ⟨kc_3, kw_23, kl_3_1, Nat.le_of_ble_eq_true rfl, Nat.le_of_ble_eq_true rfl⟩
theorem kk_12_9 : js_lk 12 9 2 := ⟨kc_9, kw_23, kl_9_2, Nat.le_of_ble_eq_true rfl, Nat.le_of_ble_eq_true rfl⟩
theorem kk_12_18 : js_lk 12 18 1 := ⟨kc_18, kw_23, kl_18_1, Nat.le_of_ble_eq_true rfl, Nat.le_of_ble_eq_true rfl⟩
theorem kk_12_21 : js_lk 12 21 0 := ⟨kc_21, kw_24, kl_21_0, Nat.le_of_ble_eq_true rfl, Nat.le_of_ble_eq_true rfl⟩
theorem kk_14_13 : js_lk 14 13 2 := ⟨kc_13, kw_23, kl_13_2, Nat.le_of_ble_eq_true rfl, Nat.le_of_ble_eq_true rfl⟩
theorem kk_15_14 : js_lk 15 14 1 := ⟨kc_14, kw_23, kl_14_1, Nat.le_of_ble_eq_true rfl, Nat.le_of_ble_eq_true rfl⟩
theorem kk_16_13 : js_lk 16 13 2 := ⟨kc_13, kw_23, kl_13_2, Nat.le_of_ble_eq_true rfl, Nat.le_of_ble_eq_true rfl⟩
theorem kk_16_22 : js_lk 16 22 1 := ⟨kc_22, kw_24, kl_22_1, Nat.le_of_ble_eq_true rfl, Nat.le_of_ble_eq_true rfl⟩
theorem kk_16_128 : js_lk 16 128 1 := ⟨kc_128, kw_22, kl_128_1, Nat.le_of_ble_eq_true rfl, Nat.le_of_ble_eq_true rfl⟩
theorem kk_17_16 : js_lk 17 16 3 := ⟨kc_16, kw_23, kl_16_3, Nat.le_of_ble_eq_true rfl, Nat.le_of_ble_eq_true rfl⟩
theorem kk_18_16 : js_lk 18 16 3 := ⟨kc_16, kw_23, kl_16_3, Nat.le_of_ble_eq_true rfl, Nat.le_of_ble_eq_true rfl⟩
theorem kk_18_21 : js_lk 18 21 0 := ⟨kc_21, kw_24, kl_21_0, Nat.le_of_ble_eq_true rfl, Nat.le_of_ble_eq_true rfl⟩
theorem kk_25_13 : js_lk 25 13 2 := ⟨kc_13, kw_23, kl_13_2, Nat.le_of_ble_eq_true rfl, Nat.le_of_ble_eq_true rfl⟩
theorem kk_25_16 : js_lk 25 16 3 := ⟨kc_16, kw_23, kl_16_3, Nat.le_of_ble_eq_true rfl, Nat.le_of_ble_eq_true rfl⟩
theorem kk_25_129 : js_lk 25 129 1 := ⟨kc_129, kw_22, kl_129_1, Nat.le_of_ble_eq_true rfl, Nat.le_of_ble_eq_true rfl⟩
theorem kk_26_21 : js_lk 26 21 0 := ⟨kc_21, kw_24, kl_21_0, Nat.le_of_ble_eq_true rfl, Nat.le_of_ble_eq_true rfl⟩
theorem kk_26_25 : js_lk 26 25 2 := ⟨kc_25, kw_27, kl_25_2, Nat.le_of_ble_eq_true rfl, Nat.le_of_ble_eq_true rfl⟩
theorem kk_26_129 : js_lk 26 129 1 := ⟨kc_129, kw_22, kl_129_1, Nat.le_of_ble_eq_true rfl, Nat.le_of_ble_eq_true rfl⟩
theorem kk_27_21 : js_lk 27 21 0 := ⟨kc_21, kw_24, kl_21_0, Nat.le_of_ble_eq_true rfl, Nat.le_of_ble_eq_true rfl⟩
theorem kk_27_25 : js_lk 27 25 2 := ⟨kc_25, kw_27, kl_25_2, Nat.le_of_ble_eq_true rfl, Nat.le_of_ble_eq_true rfl⟩
theorem kk_27_245 : js_lk 27 245 1 := ⟨kc_245, kw_45, kl_245_1, Nat.le_of_ble_eq_true rfl, Nat.le_of_ble_eq_true rfl⟩
theorem kk_27_246 : js_lk 27 246 2 := ⟨kc_246, kw_40, kl_246_2, Nat.le_of_ble_eq_true rfl, Nat.le_of_ble_eq_true rfl⟩
theorem kk_28_4 : js_lk 28 4 0 := ⟨kc_4, kw_23, kl_4_0, Nat.le_of_ble_eq_true rfl, Nat.le_of_ble_eq_true rfl⟩
theorem kk_28_21 : js_lk 28 21 0 := ⟨kc_21, kw_24, kl_21_0, Nat.le_of_ble_eq_true rfl, Nat.le_of_ble_eq_true rfl⟩
theorem kk_28_29 : js_lk 28 29 3 := ⟨kc_29, kw_27, kl_29_3, Nat.le_of_ble_eq_true rfl, Nat.le_of_ble_eq_true rfl⟩
theorem kk_29_13 : js_lk 29 13 2 := ⟨kc_13, kw_23, kl_13_2, Nat.le_of_ble_eq_true rfl, Nat.le_of_ble_eq_true rfl⟩
theorem kk_29_16 : js_lk 29 16 3 := ⟨kc_16, kw_23, kl_16_3, Nat.le_of_ble_eq_true rfl, Nat.le_of_ble_eq_true rfl⟩
theorem kk_29_30 : js_lk 29 30 1 := ⟨kc_30, kw_27, kl_30_1, Nat.le_of_ble_eq_true rfl, Nat.le_of_ble_eq_true rfl⟩
theorem kk_32_13 : js_lk 32 13 2 := ⟨kc_13, kw_23, kl_13_2, Nat.le_of_ble_eq_true rfl, Nat.le_of_ble_eq_true rfl⟩
theorem kk_32_22 : js_lk 32 22 1 := ⟨kc_22, kw_24, kl_22_1, Nat.le_of_ble_eq_true rfl, Nat.le_of_ble_eq_true rfl⟩
theorem kk_32_128 : js_lk 32 128 1 := ⟨kc_128, kw_22, kl_128_1, Nat.le_of_ble_eq_true rfl, Nat.le_of_ble_eq_true rfl⟩
theorem kk_34_33 : js_lk 34 33 2 := ⟨kc_33, kw_26, kl_33_2, Nat.le_of_ble_eq_true rfl, Nat.le_of_ble_eq_true rfl⟩
theorem kk_35_33 : js_lk 35 33 2 := ⟨kc_33, kw_26, kl_33_2, Nat.le_of_ble_eq_true rfl, Nat.le_of_ble_eq_true rfl⟩
theorem kk_35_246 : js_lk 35 246 2 := ⟨kc_246, kw_40, kl_246_2, Nat.le_of_ble_eq_true rfl, Nat.le_of_ble_eq_true rfl⟩
theorem kk_36_21 : js_lk 36 21 0 := ⟨kc_21, kw_24, kl_21_0, Nat.le_of_ble_eq_true rfl, Nat.le_of_ble_eq_true rfl⟩
theorem kk_36_35 : js_lk 36 35 1 := ⟨kc_35, kw_26, kl_35_1, Nat.le_of_ble_eq_true rfl, Nat.le_of_ble_eq_true rfl⟩
theorem kk_36_37 : js_lk 36 37 2 := ⟨kc_37, kw_26, kl_37_2, Nat.le_of_ble_eq_true rfl, Nat.le_of_ble_eq_true rfl⟩
theorem kk_37_21 : js_lk 37 21 0 := ⟨kc_21, kw_24, kl_21_0, Nat.le_of_ble_eq_true rfl, Nat.le_of_ble_eq_true rfl⟩
theorem kk_38_9 : js_lk 38 9 2 := ⟨kc_9, kw_23, kl_9_2, Nat.le_of_ble_eq_true rfl, Nat.le_of_ble_eq_true rfl⟩
theorem kk_38_34 : js_lk 38 34 1 := ⟨kc_34, kw_26, kl_34_1, Nat.le_of_ble_eq_true rfl, Nat.le_of_ble_eq_true rfl⟩
theorem kk_39_21 : js_lk 39 21 0 := ⟨kc_21, kw_24, kl_21_0, Nat.le_of_ble_eq_true rfl, Nat.le_of_ble_eq_true rfl⟩
theorem kk_39_35 : js_lk 39 35 1 := ⟨kc_35, kw_26, kl_35_1, Nat.le_of_ble_eq_true rfl, Nat.le_of_ble_eq_true rfl⟩
theorem kk_39_246 : js_lk 39 246 2 := ⟨kc_246, kw_40, kl_246_2, Nat.le_of_ble_eq_true rfl, Nat.le_of_ble_eq_true rfl⟩
theorem kk_40_15 : js_lk 40 15 1 := ⟨kc_15, kw_23, kl_15_1, Nat.le_of_ble_eq_true rfl, Nat.le_of_ble_eq_true rfl⟩
theorem kk_40_32 : js_lk 40 32 2 := ⟨kc_32, kw_26, kl_32_2, Nat.le_of_ble_eq_true rfl, Nat.le_of_ble_eq_true rfl⟩
theorem kk_40_39 : js_lk 40 39 2 := ⟨kc_39, kw_26, kl_39_2, Nat.le_of_ble_eq_true rfl, Nat.le_of_ble_eq_true rfl⟩
theorem kk_41_32 : js_lk 41 32 2 := ⟨kc_32, kw_26, kl_32_2, Nat.le_of_ble_eq_true rfl, Nat.le_of_ble_eq_true rfl⟩
theorem kk_41_36 : js_lk 41 36 2 := ⟨kc_36, kw_26, kl_36_2, Nat.le_of_ble_eq_true rfl, Nat.le_of_ble_eq_true rfl⟩
theorem kk_41_38 : js_lk 41 38 2 := ⟨kc_38, kw_26, kl_38_2, Nat.le_of_ble_eq_true rfl, Nat.le_of_ble_eq_true rfl⟩
theorem kk_41_40 : js_lk 41 40 1 := ⟨kc_40, kw_26, kl_40_1, Nat.le_of_ble_eq_true rfl, Nat.le_of_ble_eq_true rfl⟩
theorem kk_42_0 : js_lk 42 0 0 := ⟨kc_0, kw_23, kl_0_0, Nat.le_of_ble_eq_true rfl, Nat.le_of_ble_eq_true rfl⟩
theorem kk_43_1 : js_lk 43 1 1 := ⟨kc_1, kw_23, kl_1_1, Nat.le_of_ble_eq_true rfl, Nat.le_of_ble_eq_true rfl⟩
theorem kk_43_44 : js_lk 43 44 0 := ⟨kc_44, kw_25, kl_44_0, Nat.le_of_ble_eq_true rfl, Nat.le_of_ble_eq_true rfl⟩
theorem kk_45_247 : js_lk 45 247 2 := ⟨kc_247, kw_40, kl_247_2, Nat.le_of_ble_eq_true rfl, Nat.le_of_ble_eq_true rfl⟩
theorem kk_48_19 : js_lk 48 19 0 := ⟨kc_19, kw_29, kl_19_0, Nat.le_of_ble_eq_true rfl, Nat.le_of_ble_eq_true rfl⟩
theorem kk_52_53 : js_lk 52 53 1 := ⟨kc_53, kw_28, kl_53_1, Nat.le_of_ble_eq_true rfl, Nat.le_of_ble_eq_true rfl⟩
theorem kk_52_57 : js_lk 52 57 1 := ⟨kc_57, kw_28, kl_57_1, Nat.le_of_ble_eq_true rfl, Nat.le_of_ble_eq_true rfl⟩
theorem kk_53_54 : js_lk 53 54 0 := ⟨kc_54, kw_28, kl_54_0, Nat.le_of_ble_eq_true rfl, Nat.le_of_ble_eq_true rfl⟩
theorem kk_53_56 : js_lk 53 56 0 := ⟨kc_56, kw_28, kl_56_0, Nat.le_of_ble_eq_true rfl, Nat.le_of_ble_eq_true rfl⟩
theorem kk_53_57 : js_lk 53 57 1 := ⟨kc_57, kw_28, kl_57_1, Nat.le_of_ble_eq_true rfl, Nat.le_of_ble_eq_true rfl⟩
theorem kk_53_248 : js_lk 53 248 0 := ⟨kc_248, kw_42, kl_248_0, Nat.le_of_ble_eq_true rfl, Nat.le_of_ble_eq_true rfl⟩
theorem kk_53_249 : js_lk 53 249 1 := ⟨kc_249, kw_42, kl_249_1, Nat.le_of_ble_eq_true rfl, Nat.le_of_ble_eq_true rfl⟩
theorem kk_54_55 : js_lk 54 55 1 := ⟨kc_55, kw_28, kl_55_1, Nat.le_of_ble_eq_true rfl, Nat.le_of_ble_eq_true rfl⟩
theorem kk_54_246 : js_lk 54 246 2 := ⟨kc_246, kw_40, kl_246_2, Nat.le_of_ble_eq_true rfl, Nat.le_of_ble_eq_true rfl⟩
theorem kk_54_248 : js_lk 54 248 0 := ⟨kc_248, kw_42, kl_248_0, Nat.le_of_ble_eq_true rfl, Nat.le_of_ble_eq_true rfl⟩
theorem kk_55_248 : js_lk 55 248 0 := ⟨kc_248, kw_42, kl_248_0, Nat.le_of_ble_eq_true rfl, Nat.le_of_ble_eq_true rfl⟩
theorem kk_55_249 : js_lk 55 249 1 := ⟨kc_249, kw_42, kl_249_1, Nat.le_of_ble_eq_true rfl, Nat.le_of_ble_eq_true rfl⟩
theorem kk_56_57 : js_lk 56 57 1 := ⟨kc_57, kw_28, kl_57_1, Nat.le_of_ble_eq_true rfl, Nat.le_of_ble_eq_true rfl⟩
theorem kk_57_58 : js_lk 57 58 2 := ⟨kc_58, kw_28, kl_58_2, Nat.le_of_ble_eq_true rfl, Nat.le_of_ble_eq_true rfl⟩
theorem kk_58_127 : js_lk 58 127 1 := ⟨kc_127, kw_22, kl_127_1, Nat.le_of_ble_eq_true rfl, Nat.le_of_ble_eq_true rfl⟩
theorem kk_58_131 : js_lk 58 131 1 := ⟨kc_131, kw_22, kl_131_1, Nat.le_of_ble_eq_true rfl, Nat.le_of_ble_eq_true rfl⟩
theorem kk_59_0 : js_lk 59 0 0 := ⟨kc_0, kw_23, kl_0_0, Nat.le_of_ble_eq_true rfl, Nat.le_of_ble_eq_true rfl⟩
theorem kk_59_24 : js_lk 59 24 0 := ⟨kc_24, kw_27, kl_24_0, Nat.le_of_ble_eq_true rfl, Nat.le_of_ble_eq_true rfl⟩
theorem kk_59_31 : js_lk 59 31 0 := ⟨kc_31, kw_26, kl_31_0, Nat.le_of_ble_eq_true rfl, Nat.le_of_ble_eq_true rfl⟩
theorem kk_59_42 : js_lk 59 42 0 := ⟨kc_42, kw_25, kl_42_0, Nat.le_of_ble_eq_true rfl, Nat.le_of_ble_eq_true rfl⟩
theorem kk_59_48 : js_lk 59 48 0 := ⟨kc_48, kw_28, kl_48_0, Nat.le_of_ble_eq_true rfl, Nat.le_of_ble_eq_true rfl⟩
theorem kk_60_6 : js_lk 60 6 5 := ⟨kc_6, kw_23, kl_6_5, Nat.le_of_ble_eq_true rfl, Nat.le_of_ble_eq_true rfl⟩
theorem kk_60_43 : js_lk 60 43 1 := ⟨kc_43, kw_25, kl_43_1, Nat.le_of_ble_eq_true rfl, Nat.le_of_ble_eq_true rfl⟩
theorem kk_60_114 : js_lk 60 114 1 := ⟨kc_114, kw_22, kl_114_1, Nat.le_of_ble_eq_true rfl, Nat.le_of_ble_eq_true rfl⟩
theorem kk_61_7 : js_lk 61 7 1 := ⟨kc_7, kw_23, kl_7_1, Nat.le_of_ble_eq_true rfl, Nat.le_of_ble_eq_true rfl⟩
theorem kk_61_43 : js_lk 61 43 1 := ⟨kc_43, kw_25, kl_43_1, Nat.le_of_ble_eq_true rfl, Nat.le_of_ble_eq_true rfl⟩
theorem kk_61_114 : js_lk 61 114 1 := ⟨kc_114, kw_22, kl_114_1, Nat.le_of_ble_eq_true rfl, Nat.le_of_ble_eq_true rfl⟩
theorem kk_63_4 : js_lk 63 4 0 := ⟨kc_4, kw_23, kl_4_0, Nat.le_of_ble_eq_true rfl, Nat.le_of_ble_eq_true rfl⟩
theorem kk_64_5 : js_lk 64 5 1 := ⟨kc_5, kw_23, kl_5_1, Nat.le_of_ble_eq_true rfl, Nat.le_of_ble_eq_true rfl⟩
theorem kk_65_3 : js_lk 65 3 1 := ⟨kc_3, kw_23, kl_3_1, Nat.le_of_ble_eq_true rfl, Nat.le_of_ble_eq_true rfl⟩
theorem kk_66_116 : js_lk 66 116 1 := ⟨kc_116, kw_22, kl_116_1, Nat.le_of_ble_eq_true rfl, Nat.le_of_ble_eq_true rfl⟩
theorem kk_67_116 : js_lk 67 116 1 := ⟨kc_116, kw_22, kl_116_1, Nat.le_of_ble_eq_true rfl, Nat.le_of_ble_eq_true rfl⟩
theorem kk_68_22 : js_lk 68 22 1 := ⟨kc_22, kw_24, kl_22_1, Nat.le_of_ble_eq_true rfl, Nat.le_of_ble_eq_true rfl⟩
theorem kk_68_116 : js_lk 68 116 1 := ⟨kc_116, kw_22, kl_116_1, Nat.le_of_ble_eq_true rfl, Nat.le_of_ble_eq_true rfl⟩
theorem kk_68_122 : js_lk 68 122 1 := ⟨kc_122, kw_22, kl_122_1, Nat.le_of_ble_eq_true rfl, Nat.le_of_ble_eq_true rfl⟩
theorem kk_69_21 : js_lk 69 21 0 := ⟨kc_21, kw_24, kl_21_0, Nat.le_of_ble_eq_true rfl, Nat.le_of_ble_eq_true rfl⟩
theorem kk_69_116 : js_lk 69 116 1 := ⟨kc_116, kw_22, kl_116_1, Nat.le_of_ble_eq_true rfl, Nat.le_of_ble_eq_true rfl⟩
theorem kk_70_117 : js_lk 70 117 1 := ⟨kc_117, kw_22, kl_117_1, Nat.le_of_ble_eq_true rfl, Nat.le_of_ble_eq_true rfl⟩
theorem kk_71_22 : js_lk 71 22 1 := ⟨kc_22, kw_24, kl_22_1, Nat.le_of_ble_eq_true rfl, Nat.le_of_ble_eq_true rfl⟩
theorem kk_71_244 : js_lk 71 244 1 := ⟨kc_244, kw_46, kl_244_1, Nat.le_of_ble_eq_true rfl, Nat.le_of_ble_eq_true rfl⟩
theorem kk_72_8 : js_lk 72 8 3 := ⟨kc_8, kw_23, kl_8_3, Nat.le_of_ble_eq_true rfl, Nat.le_of_ble_eq_true rfl⟩
theorem kk_72_43 : js_lk 72 43 1 := ⟨kc_43, kw_25, kl_43_1, Nat.le_of_ble_eq_true rfl, Nat.le_of_ble_eq_true rfl⟩
theorem kk_72_114 : js_lk 72 114 1 := ⟨kc_114, kw_22, kl_114_1, Nat.le_of_ble_eq_true rfl, Nat.le_of_ble_eq_true rfl⟩
theorem kk_73_10 : js_lk 73 10 1 := ⟨kc_10, kw_23, kl_10_1, Nat.le_of_ble_eq_true rfl, Nat.le_of_ble_eq_true rfl⟩
theorem kk_73_43 : js_lk 73 43 1 := ⟨kc_43, kw_25, kl_43_1, Nat.le_of_ble_eq_true rfl, Nat.le_of_ble_eq_true rfl⟩
theorem kk_73_114 : js_lk 73 114 1 := ⟨kc_114, kw_22, kl_114_1, Nat.le_of_ble_eq_true rfl, Nat.le_of_ble_eq_true rfl⟩
theorem kk_74_11 : js_lk 74 11 2 := ⟨kc_11, kw_23, kl_11_2, Nat.le_of_ble_eq_true rfl, Nat.le_of_ble_eq_true rfl⟩
theorem kk_74_43 : js_lk 74 43 1 := ⟨kc_43, kw_25, kl_43_1, Nat.le_of_ble_eq_true rfl, Nat.le_of_ble_eq_true rfl⟩
theorem kk_74_114 : js_lk 74 114 1 := ⟨kc_114, kw_22, kl_114_1, Nat.le_of_ble_eq_true rfl, Nat.le_of_ble_eq_true rfl⟩
theorem kk_75_12 : js_lk 75 12 2 := ⟨kc_12, kw_23, kl_12_2, Nat.le_of_ble_eq_true rfl, Nat.le_of_ble_eq_true rfl⟩
theorem kk_75_43 : js_lk 75 43 1 := ⟨kc_43, kw_25, kl_43_1, Nat.le_of_ble_eq_true rfl, Nat.le_of_ble_eq_true rfl⟩
theorem kk_75_114 : js_lk 75 114 1 := ⟨kc_114, kw_22, kl_114_1, Nat.le_of_ble_eq_true rfl, Nat.le_of_ble_eq_true rfl⟩
theorem kk_76_38 : js_lk 76 38 2 := ⟨kc_38, kw_26, kl_38_2, Nat.le_of_ble_eq_true rfl, Nat.le_of_ble_eq_true rfl⟩
theorem kk_76_43 : js_lk 76 43 1 := ⟨kc_43, kw_25, kl_43_1, Nat.le_of_ble_eq_true rfl, Nat.le_of_ble_eq_true rfl⟩
theorem kk_76_114 : js_lk 76 114 1 := ⟨kc_114, kw_22, kl_114_1, Nat.le_of_ble_eq_true rfl, Nat.le_of_ble_eq_true rfl⟩
theorem kk_76_119 : js_lk 76 119 2 := ⟨kc_119, kw_22, kl_119_2, Nat.le_of_ble_eq_true rfl, Nat.le_of_ble_eq_true rfl⟩
theorem kk_76_121 : js_lk 76 121 2 := ⟨kc_121, kw_22, kl_121_2, Nat.le_of_ble_eq_true rfl, Nat.le_of_ble_eq_true rfl⟩
theorem kk_77_41 : js_lk 77 41 1 := ⟨kc_41, kw_26, kl_41_1, Nat.le_of_ble_eq_true rfl, Nat.le_of_ble_eq_true rfl⟩
theorem kk_77_43 : js_lk 77 43 1 := ⟨kc_43, kw_25, kl_43_1, Nat.le_of_ble_eq_true rfl, Nat.le_of_ble_eq_true rfl⟩
theorem kk_77_114 : js_lk 77 114 1 := ⟨kc_114, kw_22, kl_114_1, Nat.le_of_ble_eq_true rfl, Nat.le_of_ble_eq_true rfl⟩
theorem kk_78_118 : js_lk 78 118 2 := ⟨kc_118, kw_22, kl_118_2, Nat.le_of_ble_eq_true rfl, Nat.le_of_ble_eq_true rfl⟩
theorem kk_79_118 : js_lk 79 118 2 := ⟨kc_118, kw_22, kl_118_2, Nat.le_of_ble_eq_true rfl, Nat.le_of_ble_eq_true rfl⟩
theorem kk_80_129 : js_lk 80 129 1 := ⟨kc_129, kw_22, kl_129_1, Nat.le_of_ble_eq_true rfl, Nat.le_of_ble_eq_true rfl⟩
theorem kk_81_127 : js_lk 81 127 1 := ⟨kc_127, kw_22, kl_127_1, Nat.le_of_ble_eq_true rfl, Nat.le_of_ble_eq_true rfl⟩
theorem kk_81_129 : js_lk 81 129 1 := ⟨kc_129, kw_22, kl_129_1, Nat.le_of_ble_eq_true rfl, Nat.le_of_ble_eq_true rfl⟩
theorem kk_82_15 : js_lk 82 15 1 := ⟨kc_15, kw_23, kl_15_1, Nat.le_of_ble_eq_true rfl, Nat.le_of_ble_eq_true rfl⟩
theorem kk_82_129 : js_lk 82 129 1 := ⟨kc_129, kw_22, kl_129_1, Nat.le_of_ble_eq_true rfl, Nat.le_of_ble_eq_true rfl⟩
theorem kk_83_80 : js_lk 83 80 0 := ⟨kc_80, kw_22, kl_80_0, Nat.le_of_ble_eq_true rfl, Nat.le_of_ble_eq_true rfl⟩
theorem kk_84_82 : js_lk 84 82 0 := ⟨kc_82, kw_22, kl_82_0, Nat.le_of_ble_eq_true rfl, Nat.le_of_ble_eq_true rfl⟩
theorem kk_84_245 : js_lk 84 245 1 := ⟨kc_245, kw_45, kl_245_1, Nat.le_of_ble_eq_true rfl, Nat.le_of_ble_eq_true rfl⟩
theorem kk_85_18 : js_lk 85 18 1 := ⟨kc_18, kw_23, kl_18_1, Nat.le_of_ble_eq_true rfl, Nat.le_of_ble_eq_true rfl⟩
theorem kk_86_18 : js_lk 86 18 1 := ⟨kc_18, kw_23, kl_18_1, Nat.le_of_ble_eq_true rfl, Nat.le_of_ble_eq_true rfl⟩
theorem kk_87_16 : js_lk 87 16 3 := ⟨kc_16, kw_23, kl_16_3, Nat.le_of_ble_eq_true rfl, Nat.le_of_ble_eq_true rfl⟩
theorem kk_87_117 : js_lk 87 117 1 := ⟨kc_117, kw_22, kl_117_1, Nat.le_of_ble_eq_true rfl, Nat.le_of_ble_eq_true rfl⟩
theorem kk_87_122 : js_lk 87 122 1 := ⟨kc_122, kw_22, kl_122_1, Nat.le_of_ble_eq_true rfl, Nat.le_of_ble_eq_true rfl⟩
theorem kk_88_17 : js_lk 88 17 2 := ⟨kc_17, kw_23, kl_17_2, Nat.le_of_ble_eq_true rfl, Nat.le_of_ble_eq_true rfl⟩
theorem kk_88_117 : js_lk 88 117 1 := ⟨kc_117, kw_22, kl_117_1, Nat.le_of_ble_eq_true rfl, Nat.le_of_ble_eq_true rfl⟩
theorem kk_89_14 : js_lk 89 14 1 := ⟨kc_14, kw_23, kl_14_1, Nat.le_of_ble_eq_true rfl, Nat.le_of_ble_eq_true rfl⟩
theorem kk_89_119 : js_lk 89 119 2 := ⟨kc_119, kw_22, kl_119_2, Nat.le_of_ble_eq_true rfl, Nat.le_of_ble_eq_true rfl⟩
theorem kk_90_32 : js_lk 90 32 2 := ⟨kc_32, kw_26, kl_32_2, Nat.le_of_ble_eq_true rfl, Nat.le_of_ble_eq_true rfl⟩
theorem kk_90_33 : js_lk 90 33 2 := ⟨kc_33, kw_26, kl_33_2, Nat.le_of_ble_eq_true rfl, Nat.le_of_ble_eq_true rfl⟩
theorem kk_90_116 : js_lk 90 116 1 := ⟨kc_116, kw_22, kl_116_1, Nat.le_of_ble_eq_true rfl, Nat.le_of_ble_eq_true rfl⟩
theorem kk_90_118 : js_lk 90 118 2 := ⟨kc_118, kw_22, kl_118_2, Nat.le_of_ble_eq_true rfl, Nat.le_of_ble_eq_true rfl⟩
theorem kk_90_120 : js_lk 90 120 1 := ⟨kc_120, kw_22, kl_120_1, Nat.le_of_ble_eq_true rfl, Nat.le_of_ble_eq_true rfl⟩
theorem kk_90_123 : js_lk 90 123 1 := ⟨kc_123, kw_22, kl_123_1, Nat.le_of_ble_eq_true rfl, Nat.le_of_ble_eq_true rfl⟩
theorem kk_90_126 : js_lk 90 126 2 := ⟨kc_126, kw_22, kl_126_2, Nat.le_of_ble_eq_true rfl, Nat.le_of_ble_eq_true rfl⟩
theorem kk_91_32 : js_lk 91 32 2 := ⟨kc_32, kw_26, kl_32_2, Nat.le_of_ble_eq_true rfl, Nat.le_of_ble_eq_true rfl⟩
theorem kk_91_34 : js_lk 91 34 1 := ⟨kc_34, kw_26, kl_34_1, Nat.le_of_ble_eq_true rfl, Nat.le_of_ble_eq_true rfl⟩
theorem kk_91_116 : js_lk 91 116 1 := ⟨kc_116, kw_22, kl_116_1, Nat.le_of_ble_eq_true rfl, Nat.le_of_ble_eq_true rfl⟩
theorem kk_91_118 : js_lk 91 118 2 := ⟨kc_118, kw_22, kl_118_2, Nat.le_of_ble_eq_true rfl, Nat.le_of_ble_eq_true rfl⟩
theorem kk_91_120 : js_lk 91 120 1 := ⟨kc_120, kw_22, kl_120_1, Nat.le_of_ble_eq_true rfl, Nat.le_of_ble_eq_true rfl⟩
theorem kk_91_123 : js_lk 91 123 1 := ⟨kc_123, kw_22, kl_123_1, Nat.le_of_ble_eq_true rfl, Nat.le_of_ble_eq_true rfl⟩
theorem kk_92_119 : js_lk 92 119 2 := ⟨kc_119, kw_22, kl_119_2, Nat.le_of_ble_eq_true rfl, Nat.le_of_ble_eq_true rfl⟩
theorem kk_92_121 : js_lk 92 121 2 := ⟨kc_121, kw_22, kl_121_2, Nat.le_of_ble_eq_true rfl, Nat.le_of_ble_eq_true rfl⟩
theorem kk_93_119 : js_lk 93 119 2 := ⟨kc_119, kw_22, kl_119_2, Nat.le_of_ble_eq_true rfl, Nat.le_of_ble_eq_true rfl⟩
theorem kk_93_121 : js_lk 93 121 2 := ⟨kc_121, kw_22, kl_121_2, Nat.le_of_ble_eq_true rfl, Nat.le_of_ble_eq_true rfl⟩
theorem kk_94_26 : js_lk 94 26 1 := ⟨kc_26, kw_27, kl_26_1, Nat.le_of_ble_eq_true rfl, Nat.le_of_ble_eq_true rfl⟩
theorem kk_95_28 : js_lk 95 28 1 := ⟨kc_28, kw_27, kl_28_1, Nat.le_of_ble_eq_true rfl, Nat.le_of_ble_eq_true rfl⟩
theorem kk_96_97 : js_lk 96 97 1 := ⟨kc_97, kw_22, kl_97_1, Nat.le_of_ble_eq_true rfl, Nat.le_of_ble_eq_true rfl⟩
theorem kk_96_245 : js_lk 96 245 1 := ⟨kc_245, kw_45, kl_245_1, Nat.le_of_ble_eq_true rfl, Nat.le_of_ble_eq_true rfl⟩
theorem kk_97_25 : js_lk 97 25 2 := ⟨kc_25, kw_27, kl_25_2, Nat.le_of_ble_eq_true rfl, Nat.le_of_ble_eq_true rfl⟩
theorem kk_97_117 : js_lk 97 117 1 := ⟨kc_117, kw_22, kl_117_1, Nat.le_of_ble_eq_true rfl, Nat.le_of_ble_eq_true rfl⟩
theorem kk_98_27 : js_lk 98 27 1 := ⟨kc_27, kw_27, kl_27_1, Nat.le_of_ble_eq_true rfl, Nat.le_of_ble_eq_true rfl⟩
theorem kk_99_18 : js_lk 99 18 1 := ⟨kc_18, kw_23, kl_18_1, Nat.le_of_ble_eq_true rfl, Nat.le_of_ble_eq_true rfl⟩
theorem kk_100_99 : js_lk 100 99 0 := ⟨kc_99, kw_22, kl_99_0, Nat.le_of_ble_eq_true rfl, Nat.le_of_ble_eq_true rfl⟩
theorem kk_100_132 : js_lk 100 132 1 := ⟨kc_132, kw_22, kl_132_1, Nat.le_of_ble_eq_true rfl, Nat.le_of_ble_eq_true rfl⟩
theorem kk_101_4 : js_lk 101 4 0 := ⟨kc_4, kw_23, kl_4_0, Nat.le_of_ble_eq_true rfl, Nat.le_of_ble_eq_true rfl⟩
theorem kk_101_18 : js_lk 101 18 1 := ⟨kc_18, kw_23, kl_18_1, Nat.le_of_ble_eq_true rfl, Nat.le_of_ble_eq_true rfl⟩
theorem kk_102_82 : js_lk 102 82 0 := ⟨kc_82, kw_22, kl_82_0, Nat.le_of_ble_eq_true rfl, Nat.le_of_ble_eq_true rfl⟩
theorem kk_102_83 : js_lk 102 83 0 := ⟨kc_83, kw_22, kl_83_0, Nat.le_of_ble_eq_true rfl, Nat.le_of_ble_eq_true rfl⟩
theorem kk_102_94 : js_lk 102 94 0 := ⟨kc_94, kw_22, kl_94_0, Nat.le_of_ble_eq_true rfl, Nat.le_of_ble_eq_true rfl⟩
theorem kk_102_95 : js_lk 102 95 0 := ⟨kc_95, kw_22, kl_95_0, Nat.le_of_ble_eq_true rfl, Nat.le_of_ble_eq_true rfl⟩
theorem kk_103_118 : js_lk 103 118 2 := ⟨kc_118, kw_22, kl_118_2, Nat.le_of_ble_eq_true rfl, Nat.le_of_ble_eq_true rfl⟩
theorem kk_103_124 : js_lk 103 124 1 := ⟨kc_124, kw_22, kl_124_1, Nat.le_of_ble_eq_true rfl, Nat.le_of_ble_eq_true rfl⟩
theorem kk_104_21 : js_lk 104 21 0 := ⟨kc_21, kw_24, kl_21_0, Nat.le_of_ble_eq_true rfl, Nat.le_of_ble_eq_true rfl⟩
theorem kk_104_22 : js_lk 104 22 1 := ⟨kc_22, kw_24, kl_22_1, Nat.le_of_ble_eq_true rfl, Nat.le_of_ble_eq_true rfl⟩
theorem kk_104_116 : js_lk 104 116 1 := ⟨kc_116, kw_22, kl_116_1, Nat.le_of_ble_eq_true rfl, Nat.le_of_ble_eq_true rfl⟩
theorem kk_104_130 : js_lk 104 130 1 := ⟨kc_130, kw_22, kl_130_1, Nat.le_of_ble_eq_true rfl, Nat.le_of_ble_eq_true rfl⟩
theorem kk_106_49 : js_lk 106 49 0 := ⟨kc_49, kw_28, kl_49_0, Nat.le_of_ble_eq_true rfl, Nat.le_of_ble_eq_true rfl⟩
theorem kk_106_50 : js_lk 106 50 1 := ⟨kc_50, kw_28, kl_50_1, Nat.le_of_ble_eq_true rfl, Nat.le_of_ble_eq_true rfl⟩
theorem kk_107_1 : js_lk 107 1 1 := ⟨kc_1, kw_23, kl_1_1, Nat.le_of_ble_eq_true rfl, Nat.le_of_ble_eq_true rfl⟩
theorem kk_107_43 : js_lk 107 43 1 := ⟨kc_43, kw_25, kl_43_1, Nat.le_of_ble_eq_true rfl, Nat.le_of_ble_eq_true rfl⟩
theorem kk_107_44 : js_lk 107 44 0 := ⟨kc_44, kw_25, kl_44_0, Nat.le_of_ble_eq_true rfl, Nat.le_of_ble_eq_true rfl⟩
theorem kk_107_51 : js_lk 107 51 0 := ⟨kc_51, kw_28, kl_51_0, Nat.le_of_ble_eq_true rfl, Nat.le_of_ble_eq_true rfl⟩
theorem kk_107_52 : js_lk 107 52 0 := ⟨kc_52, kw_28, kl_52_0, Nat.le_of_ble_eq_true rfl, Nat.le_of_ble_eq_true rfl⟩
theorem kk_107_114 : js_lk 107 114 1 := ⟨kc_114, kw_22, kl_114_1, Nat.le_of_ble_eq_true rfl, Nat.le_of_ble_eq_true rfl⟩
theorem kk_107_125 : js_lk 107 125 1 := ⟨kc_125, kw_22, kl_125_1, Nat.le_of_ble_eq_true rfl, Nat.le_of_ble_eq_true rfl⟩
theorem kk_110_1 : js_lk 110 1 1 := ⟨kc_1, kw_23, kl_1_1, Nat.le_of_ble_eq_true rfl, Nat.le_of_ble_eq_true rfl⟩
theorem kk_110_46 : js_lk 110 46 0 := ⟨kc_46, kw_25, kl_46_0, Nat.le_of_ble_eq_true rfl, Nat.le_of_ble_eq_true rfl⟩
theorem kk_114_45 : js_lk 114 45 0 := ⟨kc_45, kw_25, kl_45_0, Nat.le_of_ble_eq_true rfl, Nat.le_of_ble_eq_true rfl⟩
theorem kk_114_115 : js_lk 114 115 1 := ⟨kc_115, kw_22, kl_115_1, Nat.le_of_ble_eq_true rfl, Nat.le_of_ble_eq_true rfl⟩
theorem kk_116_3 : js_lk 116 3 1 := ⟨kc_3, kw_23, kl_3_1, Nat.le_of_ble_eq_true rfl, Nat.le_of_ble_eq_true rfl⟩
theorem kk_117_21 : js_lk 117 21 0 := ⟨kc_21, kw_24, kl_21_0, Nat.le_of_ble_eq_true rfl, Nat.le_of_ble_eq_true rfl⟩
theorem kk_117_116 : js_lk 117 116 1 := ⟨kc_116, kw_22, kl_116_1, Nat.le_of_ble_eq_true rfl, Nat.le_of_ble_eq_true rfl⟩
theorem kk_118_126 : js_lk 118 126 2 := ⟨kc_126, kw_22, kl_126_2, Nat.le_of_ble_eq_true rfl, Nat.le_of_ble_eq_true rfl⟩
theorem kk_119_118 : js_lk 119 118 2 := ⟨kc_118, kw_22, kl_118_2, Nat.le_of_ble_eq_true rfl, Nat.le_of_ble_eq_true rfl⟩
theorem kk_119_120 : js_lk 119 120 1 := ⟨kc_120, kw_22, kl_120_1, Nat.le_of_ble_eq_true rfl, Nat.le_of_ble_eq_true rfl⟩
theorem kk_120_15 : js_lk 120 15 1 := ⟨kc_15, kw_23, kl_15_1, Nat.le_of_ble_eq_true rfl, Nat.le_of_ble_eq_true rfl⟩
theorem kk_121_32 : js_lk 121 32 2 := ⟨kc_32, kw_26, kl_32_2, Nat.le_of_ble_eq_true rfl, Nat.le_of_ble_eq_true rfl⟩
theorem kk_121_36 : js_lk 121 36 2 := ⟨kc_36, kw_26, kl_36_2, Nat.le_of_ble_eq_true rfl, Nat.le_of_ble_eq_true rfl⟩
theorem kk_122_126 : js_lk 122 126 2 := ⟨kc_126, kw_22, kl_126_2, Nat.le_of_ble_eq_true rfl, Nat.le_of_ble_eq_true rfl⟩
theorem kk_123_21 : js_lk 123 21 0 := ⟨kc_21, kw_24, kl_21_0, Nat.le_of_ble_eq_true rfl, Nat.le_of_ble_eq_true rfl⟩
theorem kk_124_15 : js_lk 124 15 1 := ⟨kc_15, kw_23, kl_15_1, Nat.le_of_ble_eq_true rfl, Nat.le_of_ble_eq_true rfl⟩
theorem kk_125_6 : js_lk 125 6 5 := ⟨kc_6, kw_23, kl_6_5, Nat.le_of_ble_eq_true rfl, Nat.le_of_ble_eq_true rfl⟩
theorem kk_125_7 : js_lk 125 7 1 := ⟨kc_7, kw_23, kl_7_1, Nat.le_of_ble_eq_true rfl, Nat.le_of_ble_eq_true rfl⟩
theorem kk_125_8 : js_lk 125 8 3 := ⟨kc_8, kw_23, kl_8_3, Nat.le_of_ble_eq_true rfl, Nat.le_of_ble_eq_true rfl⟩
theorem kk_125_10 : js_lk 125 10 1 := ⟨kc_10, kw_23, kl_10_1, Nat.le_of_ble_eq_true rfl, Nat.le_of_ble_eq_true rfl⟩
theorem kk_125_11 : js_lk 125 11 2 := ⟨kc_11, kw_23, kl_11_2, Nat.le_of_ble_eq_true rfl, Nat.le_of_ble_eq_true rfl⟩
theorem kk_125_12 : js_lk 125 12 2 := ⟨kc_12, kw_23, kl_12_2, Nat.le_of_ble_eq_true rfl, Nat.le_of_ble_eq_true rfl⟩
theorem kk_125_41 : js_lk 125 41 1 := ⟨kc_41, kw_26, kl_41_1, Nat.le_of_ble_eq_true rfl, Nat.le_of_ble_eq_true rfl⟩
theorem kk_125_241 : js_lk 125 241 0 := ⟨kc_241, kw_30, kl_241_0, Nat.le_of_ble_eq_true rfl, Nat.le_of_ble_eq_true rfl⟩
theorem kk_243_242 : js_lk 243 242 1 := ⟨kc_242, kw_48, kl_242_1, Nat.le_of_ble_eq_true rfl, Nat.le_of_ble_eq_true rfl⟩
theorem kk_248_250 : js_lk 248 250 0 := ⟨kc_250, kw_42, kl_250_0, Nat.le_of_ble_eq_true rfl, Nat.le_of_ble_eq_true rfl⟩
theorem kk_249_251 : js_lk 249 251 0 := ⟨kc_251, kw_42, kl_251_0, Nat.le_of_ble_eq_true rfl, Nat.le_of_ble_eq_true rfl⟩
theorem kk_249_253 : js_lk 249 253 2 := ⟨kc_253, kw_55, kl_253_2, Nat.le_of_ble_eq_true rfl, Nat.le_of_ble_eq_true rfl⟩
theorem kk_252_254 : js_lk 252 254 3 := ⟨kc_254, kw_54, kl_254_3, Nat.le_of_ble_eq_true rfl, Nat.le_of_ble_eq_true rfl⟩
theorem kk_253_252 : js_lk 253 252 2 := ⟨kc_252, kw_42, kl_252_2, Nat.le_of_ble_eq_true rfl, Nat.le_of_ble_eq_true rfl⟩
theorem kk_255_256 : js_lk 255 256 1 := ⟨kc_256, kw_49, kl_256_1, Nat.le_of_ble_eq_true rfl, Nat.le_of_ble_eq_true rfl⟩
theorem kk_257_261 : js_lk 257 261 1 := ⟨kc_261, kw_49, kl_261_1, Nat.le_of_ble_eq_true rfl, Nat.le_of_ble_eq_true rfl⟩
theorem kk_258_262 : js_lk 258 262 1 := ⟨kc_262, kw_49, kl_262_1, Nat.le_of_ble_eq_true rfl, Nat.le_of_ble_eq_true rfl⟩
theorem kk_259_263 : js_lk 259 263 1 := ⟨kc_263, kw_49, kl_263_1, Nat.le_of_ble_eq_true rfl, Nat.le_of_ble_eq_true rfl⟩
theorem kk_260_274 : js_lk 260 274 1 := ⟨kc_274, kw_42, kl_274_1, Nat.le_of_ble_eq_true rfl, Nat.le_of_ble_eq_true rfl⟩
theorem kk_261_248 : js_lk 261 248 0 := ⟨kc_248, kw_42, kl_248_0, Nat.le_of_ble_eq_true rfl, Nat.le_of_ble_eq_true rfl⟩
theorem kk_261_264 : js_lk 261 264 1 := ⟨kc_264, kw_49, kl_264_1, Nat.le_of_ble_eq_true rfl, Nat.le_of_ble_eq_true rfl⟩
theorem kk_261_271 : js_lk 261 271 2 := ⟨kc_271, kw_49, kl_271_2, Nat.le_of_ble_eq_true rfl, Nat.le_of_ble_eq_true rfl⟩
theorem kk_262_264 : js_lk 262 264 1 := ⟨kc_264, kw_49, kl_264_1, Nat.le_of_ble_eq_true rfl, Nat.le_of_ble_eq_true rfl⟩
theorem kk_262_266 : js_lk 262 266 0 := ⟨kc_266, kw_49, kl_266_0, Nat.le_of_ble_eq_true rfl, Nat.le_of_ble_eq_true rfl⟩
theorem kk_262_277 : js_lk 262 277 1 := ⟨kc_277, kw_55, kl_277_1, Nat.le_of_ble_eq_true rfl, Nat.le_of_ble_eq_true rfl⟩
theorem kk_263_264 : js_lk 263 264 1 := ⟨kc_264, kw_49, kl_264_1, Nat.le_of_ble_eq_true rfl, Nat.le_of_ble_eq_true rfl⟩
theorem kk_263_266 : js_lk 263 266 0 := ⟨kc_266, kw_49, kl_266_0, Nat.le_of_ble_eq_true rfl, Nat.le_of_ble_eq_true rfl⟩
theorem kk_263_272 : js_lk 263 272 1 := ⟨kc_272, kw_46, kl_272_1, Nat.le_of_ble_eq_true rfl, Nat.le_of_ble_eq_true rfl⟩
theorem kk_263_273 : js_lk 263 273 3 := ⟨kc_273, kw_46, kl_273_3, Nat.le_of_ble_eq_true rfl, Nat.le_of_ble_eq_true rfl⟩
theorem kk_264_265 : js_lk 264 265 1 := ⟨kc_265, kw_49, kl_265_1, Nat.le_of_ble_eq_true rfl, Nat.le_of_ble_eq_true rfl⟩
theorem kk_264_278 : js_lk 264 278 2 := ⟨kc_278, kw_53, kl_278_2, Nat.le_of_ble_eq_true rfl, Nat.le_of_ble_eq_true rfl⟩
theorem kk_265_282 : js_lk 265 282 3 := ⟨kc_282, kw_52, kl_282_3, Nat.le_of_ble_eq_true rfl, Nat.le_of_ble_eq_true rfl⟩
theorem kk_269_268 : js_lk 269 268 0 := ⟨kc_268, kw_49, kl_268_0, Nat.le_of_ble_eq_true rfl, Nat.le_of_ble_eq_true rfl⟩
theorem kk_270_250 : js_lk 270 250 0 := ⟨kc_250, kw_42, kl_250_0, Nat.le_of_ble_eq_true rfl, Nat.le_of_ble_eq_true rfl⟩
theorem kk_271_270 : js_lk 271 270 1 := ⟨kc_270, kw_49, kl_270_1, Nat.le_of_ble_eq_true rfl, Nat.le_of_ble_eq_true rfl⟩
theorem kk_271_276 : js_lk 271 276 3 := ⟨kc_276, kw_42, kl_276_3, Nat.le_of_ble_eq_true rfl, Nat.le_of_ble_eq_true rfl⟩
theorem kk_274_275 : js_lk 274 275 2 := ⟨kc_275, kw_42, kl_275_2, Nat.le_of_ble_eq_true rfl, Nat.le_of_ble_eq_true rfl⟩
theorem kk_275_266 : js_lk 275 266 0 := ⟨kc_266, kw_49, kl_266_0, Nat.le_of_ble_eq_true rfl, Nat.le_of_ble_eq_true rfl⟩
theorem kk_275_267 : js_lk 275 267 0 := ⟨kc_267, kw_49, kl_267_0, Nat.le_of_ble_eq_true rfl, Nat.le_of_ble_eq_true rfl⟩
theorem kk_275_269 : js_lk 275 269 0 := ⟨kc_269, kw_50, kl_269_0, Nat.le_of_ble_eq_true rfl, Nat.le_of_ble_eq_true rfl⟩
theorem kk_275_279 : js_lk 275 279 3 := ⟨kc_279, kw_53, kl_279_3, Nat.le_of_ble_eq_true rfl, Nat.le_of_ble_eq_true rfl⟩
theorem kk_276_250 : js_lk 276 250 0 := ⟨kc_250, kw_42, kl_250_0, Nat.le_of_ble_eq_true rfl, Nat.le_of_ble_eq_true rfl⟩
theorem kk_278_247 : js_lk 278 247 2 := ⟨kc_247, kw_40, kl_247_2, Nat.le_of_ble_eq_true rfl, Nat.le_of_ble_eq_true rfl⟩
theorem kk_279_280 : js_lk 279 280 3 := ⟨kc_280, kw_53, kl_280_3, Nat.le_of_ble_eq_true rfl, Nat.le_of_ble_eq_true rfl⟩
theorem kk_280_247 : js_lk 280 247 2 := ⟨kc_247, kw_40, kl_247_2, Nat.le_of_ble_eq_true rfl, Nat.le_of_ble_eq_true rfl⟩
theorem kk_280_281 : js_lk 280 281 2 := ⟨kc_281, kw_53, kl_281_2, Nat.le_of_ble_eq_true rfl, Nat.le_of_ble_eq_true rfl⟩
theorem kk_282_246 : js_lk 282 246 2 := ⟨kc_246, kw_40, kl_246_2, Nat.le_of_ble_eq_true rfl, Nat.le_of_ble_eq_true rfl⟩
end JS
