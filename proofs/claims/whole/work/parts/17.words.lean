section JS
def jk_row (P : Nat → jx_Op → Prop) (b : Nat) (r : List jx_Op) : Prop := match r with
  | [] => True
  | o :: r => P b o ∧ jk_row P (b + 1) r
def jk_all (P : Nat → jx_Op → Prop) (b : Nat) (t : List (List jx_Op)) : Prop := match t with
  | [] => True
  | r :: t => jk_row P b r ∧ jk_all P (b + 16) t
theorem jk_row_at {P : Nat → jx_Op → Prop} : ∀ {r : List jx_Op} {b k : Nat} {o : jx_Op} (_ : jk_row P b r), r[k]? = some o → P (b + k) o
  | o :: r, b, 0, o', h, e => by cases e; exact h.1
  | o :: r, b, k + 1, o', h, e => by
    have := jk_row_at (k := k) (o := o') h.2 (by simpa using e)
    rw [show b + (k + 1) = b + 1 + k by omega]; exact this
theorem jk_all_at {P : Nat → jx_Op → Prop} : ∀ {t : List (List jx_Op)} {b c k : Nat} {r : List jx_Op} {o : jx_Op} (_ : jk_all P b t), t[c]? = some r → r[k]? = some o → P (b + 16 * c + k) o
  | r :: t, b, 0, k, r', o', h, e, e2 => by cases e; exact jk_row_at h.1 e2
  | r :: t, b, c + 1, k, r', o', h, e, e2 => by
    have := jk_all_at (c := c) (k := k) h.2 (by simpa using e) e2
    rw [show b + 16 * (c + 1) + k = b + 16 + 16 * c + k by omega]; exact this
theorem jk_tab {P : Nat → jx_Op → Prop} {t : List (List jx_Op)} (hb : ∀ pc, P pc o_bad) (h : jk_all P 0 t) (pc : Nat) : P pc (jx_lk t pc) := by
  unfold jx_lk
  split
  · rename_i r e
    split
    · rename_i o e2
      have := jk_all_at h e e2
      rw [show 0 + 16 * (pc / 16) + pc % 16 = pc by omega] at this
      exact this
    · exact hb pc
  · exact hb pc
theorem kbad {m pc : Nat} : js_Ok m pc o_bad := js_St.ok st_bad
theorem kx0 : decode prog_37_method_4_code 0 = .ok (.aload_n 0, 1) := by decide +kernel
theorem kx1 : decode prog_37_method_4_code 1 = .ok (.aload_n 1, 1) := by decide +kernel
theorem kx2 : decode prog_37_method_4_code 2 = .ok (.invokespecial 13, 3) := by decide +kernel
theorem kx5 : decode prog_37_method_4_code 5 = .ok (.return_, 1) := by decide +kernel
theorem kat_88 : ∀ w ∈ vx_atS "MosaicCatalogue" 88 "java/lang/IndexOutOfBoundsException" ["java/lang/RuntimeException", "java/lang/Exception"], w ∈ lw_tbl ∧ (goodWord w = true ∨ js_nw w = true) := by decide +kernel
theorem kot_88 : ∀ w ∈ vx_atS "MosaicCatalogue" 88 "java/lang/IndexOutOfBoundsException" ["java/lang/RuntimeException", "java/lang/Exception"], vx_ot w = true := by decide +kernel
theorem kat_174 : ∀ w ∈ js_ats "MosaicCatalogue" 174 "java/util/NoSuchElementException" 13 prog_37_method_4_code ["java/lang/RuntimeException", "java/lang/Exception"], w ∈ lw_tbl ∧ (goodWord w = true ∨ js_nw w = true) := by decide +kernel
theorem kot_174 : ∀ w ∈ js_ats "MosaicCatalogue" 174 "java/util/NoSuchElementException" 13 prog_37_method_4_code ["java/lang/RuntimeException", "java/lang/Exception"], vx_ot w = true := by decide +kernel
theorem kat_187 : ∀ w ∈ vx_atS "MosaicCatalogue" 187 "java/lang/IllegalArgumentException" ["java/lang/RuntimeException", "java/lang/Exception"], w ∈ lw_tbl ∧ (goodWord w = true ∨ js_nw w = true) := by decide +kernel
theorem kot_187 : ∀ w ∈ vx_atS "MosaicCatalogue" 187 "java/lang/IllegalArgumentException" ["java/lang/RuntimeException", "java/lang/Exception"], vx_ot w = true := by decide +kernel
theorem kat_272 : ∀ w ∈ vx_atS "MosaicCatalogue" 272 "java/lang/ArithmeticException" ["java/lang/RuntimeException", "java/lang/Exception"], w ∈ lw_tbl ∧ (goodWord w = true ∨ js_nw w = true) := by decide +kernel
theorem kot_272 : ∀ w ∈ vx_atS "MosaicCatalogue" 272 "java/lang/ArithmeticException" ["java/lang/RuntimeException", "java/lang/Exception"], vx_ot w = true := by decide +kernel
theorem kat_309 : ∀ w ∈ vx_atS "MosaicCatalogue" 309 "java/lang/IllegalStateException" ["java/lang/RuntimeException", "java/lang/Exception"], w ∈ lw_tbl ∧ (goodWord w = true ∨ js_nw w = true) := by decide +kernel
theorem kot_309 : ∀ w ∈ vx_atS "MosaicCatalogue" 309 "java/lang/IllegalStateException" ["java/lang/RuntimeException", "java/lang/Exception"], vx_ot w = true := by decide +kernel
theorem kat_347 : ∀ w ∈ vx_atS "MosaicCatalogue" 347 "java/lang/UnsupportedOperationException" ["java/lang/RuntimeException", "java/lang/Exception"], w ∈ lw_tbl ∧ (goodWord w = true ∨ js_nw w = true) := by decide +kernel
theorem kot_347 : ∀ w ∈ vx_atS "MosaicCatalogue" 347 "java/lang/UnsupportedOperationException" ["java/lang/RuntimeException", "java/lang/Exception"], vx_ot w = true := by decide +kernel
theorem kw_69 : (Jvm.Cond.initialized "MosaicCatalogue$Board") ∈ js_ws := js_ws_of 69 (by decide +kernel) (by decide +kernel)
theorem kw_70 : (Jvm.Cond.initialized "MosaicCatalogue$Fragment") ∈ js_ws := js_ws_of 70 (by decide +kernel) (by decide +kernel)
theorem kw_71 : (Jvm.Cond.initialized "MosaicCatalogue$History") ∈ js_ws := js_ws_of 71 (by decide +kernel) (by decide +kernel)
theorem kw_72 : (Jvm.Cond.initialized "MosaicCatalogue$Guesses") ∈ js_ws := js_ws_of 72 (by decide +kernel) (by decide +kernel)
theorem kw_73 : (Jvm.Cond.initialized "MosaicCatalogue$Groups") ∈ js_ws := js_ws_of 73 (by decide +kernel) (by decide +kernel)
theorem kw_74 : (Jvm.Cond.initialized "MosaicCatalogue$Script") ∈ js_ws := js_ws_of 74 (by decide +kernel) (by decide +kernel)
theorem kw_75 : (Jvm.Cond.initialized "MosaicCatalogue$Command") ∈ js_ws := js_ws_of 75 (by decide +kernel) (by decide +kernel)
theorem kw_79 : (Jvm.Cond.initialized "java/lang/System") ∈ js_ws := js_ws_of 79 (by decide +kernel) (by decide +kernel)
theorem kw_83 : (Jvm.Cond.initialized "java/util/NoSuchElementException") ∈ js_ws := js_ws_of 83 (by decide +kernel) (by decide +kernel)
theorem kw_84 : (Jvm.Cond.initialized "java/lang/IndexOutOfBoundsException") ∈ js_ws := js_ws_of 84 (by decide +kernel) (by decide +kernel)
theorem kw_85 : (Jvm.Cond.initialized "java/lang/IllegalArgumentException") ∈ js_ws := js_ws_of 85 (by decide +kernel) (by decide +kernel)
theorem kw_86 : (Jvm.Cond.initialized "java/lang/IllegalStateException") ∈ js_ws := js_ws_of 86 (by decide +kernel) (by decide +kernel)
theorem kw_92 : (Jvm.Cond.initialized "java/lang/UnsupportedOperationException") ∈ js_ws := js_ws_of 92 (by decide +kernel) (by decide +kernel)
theorem kw_94 : (Jvm.Cond.initialized "java/lang/ArithmeticException") ∈ js_ws := js_ws_of 94 (by decide +kernel) (by decide +kernel)
theorem kw_95 : (Jvm.Cond.initialized "java/lang/Float") ∈ js_ws := js_ws_of 95 (by decide +kernel) (by decide +kernel)
theorem kw_105 : (Jvm.Cond.methodLink "MosaicCatalogue" 1 ⟨"java/lang/Object", "<init>", "()V"⟩) ∈ js_ws := js_ws_of 105 (by decide +kernel) (by decide +kernel)
theorem kw_106 : (Jvm.Cond.instanceMethod ⟨"java/lang/Object", "<init>", "()V"⟩) ∈ js_ws := js_ws_of 106 (by decide +kernel) (by decide +kernel)
theorem kw_107 : (Jvm.Cond.code ⟨"java/lang/Object", "<init>", "()V"⟩ object_method_1_code 1 (none)) ∈ js_ws := js_ws_of 107 (by decide +kernel) (by decide +kernel)
theorem kw_108 : (Jvm.Cond.classLink "MosaicCatalogue" 7 "MosaicCatalogue$Board") ∈ js_ws := js_ws_of 108 (by decide +kernel) (by decide +kernel)
theorem kw_109 : (Jvm.Cond.instantiable "MosaicCatalogue$Board" 4) ∈ js_ws := js_ws_of 109 (by decide +kernel) (by decide +kernel)
theorem kw_110 : (Jvm.Cond.methodLink "MosaicCatalogue" 9 ⟨"MosaicCatalogue$Board", "<init>", "()V"⟩) ∈ js_ws := js_ws_of 110 (by decide +kernel) (by decide +kernel)
theorem kw_111 : (Jvm.Cond.instanceMethod ⟨"MosaicCatalogue$Board", "<init>", "()V"⟩) ∈ js_ws := js_ws_of 111 (by decide +kernel) (by decide +kernel)
theorem kw_113 : (Jvm.Cond.methodLink "MosaicCatalogue$Board" 3 ⟨"java/lang/Object", "<init>", "()V"⟩) ∈ js_ws := js_ws_of 113 (by decide +kernel) (by decide +kernel)
theorem kw_114 : (Jvm.Cond.classLink "MosaicCatalogue$Board" 9 "MosaicCatalogue$Fragment") ∈ js_ws := js_ws_of 114 (by decide +kernel) (by decide +kernel)
theorem kw_116 : (Jvm.Cond.instantiable "MosaicCatalogue$Fragment" 5) ∈ js_ws := js_ws_of 116 (by decide +kernel) (by decide +kernel)
theorem kw_118 : (Jvm.Cond.instanceMethod ⟨"MosaicCatalogue$Fragment", "<init>", "()V"⟩) ∈ js_ws := js_ws_of 118 (by decide +kernel) (by decide +kernel)
theorem kw_120 : (Jvm.Cond.methodLink "MosaicCatalogue$Fragment" 3 ⟨"java/lang/Object", "<init>", "()V"⟩) ∈ js_ws := js_ws_of 120 (by decide +kernel) (by decide +kernel)
theorem kw_122 : (Jvm.Cond.fieldLink "MosaicCatalogue$Fragment" 22 "MosaicCatalogue$Fragment" "id" "I") ∈ js_ws := js_ws_of 122 (by decide +kernel) (by decide +kernel)
theorem kw_125 : (Jvm.Cond.fieldLink "MosaicCatalogue$Fragment" 25 "MosaicCatalogue$Fragment" "colour" "C") ∈ js_ws := js_ws_of 125 (by decide +kernel) (by decide +kernel)
theorem kw_128 : (Jvm.Cond.fieldLink "MosaicCatalogue$Fragment" 9 "MosaicCatalogue$Fragment" "edges" "[I") ∈ js_ws := js_ws_of 128 (by decide +kernel) (by decide +kernel)
theorem kw_131 : (Jvm.Cond.fieldLink "MosaicCatalogue$Fragment" 19 "MosaicCatalogue$Fragment" "turn" "I") ∈ js_ws := js_ws_of 131 (by decide +kernel) (by decide +kernel)
theorem kw_135 : (Jvm.Cond.fieldLink "MosaicCatalogue$Fragment" 15 "MosaicCatalogue$Fragment" "cell" "I") ∈ js_ws := js_ws_of 135 (by decide +kernel) (by decide +kernel)
theorem kw_150 : (Jvm.Cond.arrayClass FieldType.int) ∈ js_ws := js_ws_of 150 (by decide +kernel) (by decide +kernel)
theorem kw_151 : (Jvm.Cond.fieldLink "MosaicCatalogue$Board" 11 "MosaicCatalogue$Board" "fragments" "[LMosaicCatalogue$Fragment;") ∈ js_ws := js_ws_of 151 (by decide +kernel) (by decide +kernel)
theorem kw_155 : (Jvm.Cond.fieldLink "MosaicCatalogue$Board" 17 "MosaicCatalogue$Board" "grid" "[LMosaicCatalogue$Fragment;") ∈ js_ws := js_ws_of 155 (by decide +kernel) (by decide +kernel)
theorem kw_157 : (Jvm.Cond.fieldLink "MosaicCatalogue$Board" 21 "MosaicCatalogue$Board" "count" "I") ∈ js_ws := js_ws_of 157 (by decide +kernel) (by decide +kernel)
theorem kw_161 : (Jvm.Cond.fieldLink "MosaicCatalogue$Board" 25 "MosaicCatalogue$Board" "nextId" "I") ∈ js_ws := js_ws_of 161 (by decide +kernel) (by decide +kernel)
theorem kw_171 : (Jvm.Cond.classLink "MosaicCatalogue" 19 "MosaicCatalogue$History") ∈ js_ws := js_ws_of 171 (by decide +kernel) (by decide +kernel)
theorem kw_172 : (Jvm.Cond.instantiable "MosaicCatalogue$History" 3) ∈ js_ws := js_ws_of 172 (by decide +kernel) (by decide +kernel)
theorem kw_173 : (Jvm.Cond.methodLink "MosaicCatalogue" 21 ⟨"MosaicCatalogue$History", "<init>", "()V"⟩) ∈ js_ws := js_ws_of 173 (by decide +kernel) (by decide +kernel)
theorem kw_174 : (Jvm.Cond.instanceMethod ⟨"MosaicCatalogue$History", "<init>", "()V"⟩) ∈ js_ws := js_ws_of 174 (by decide +kernel) (by decide +kernel)
theorem kw_176 : (Jvm.Cond.methodLink "MosaicCatalogue$History" 3 ⟨"java/lang/Object", "<init>", "()V"⟩) ∈ js_ws := js_ws_of 176 (by decide +kernel) (by decide +kernel)
theorem kw_177 : (Jvm.Cond.classLink "MosaicCatalogue$History" 11 "MosaicCatalogue$Board") ∈ js_ws := js_ws_of 177 (by decide +kernel) (by decide +kernel)
theorem kw_179 : (Jvm.Cond.methodLink "MosaicCatalogue$History" 17 ⟨"MosaicCatalogue$Board", "<init>", "()V"⟩) ∈ js_ws := js_ws_of 179 (by decide +kernel) (by decide +kernel)
theorem kw_180 : (Jvm.Cond.fieldLink "MosaicCatalogue$History" 13 "MosaicCatalogue$History" "ring" "[LMosaicCatalogue$Board;") ∈ js_ws := js_ws_of 180 (by decide +kernel) (by decide +kernel)
theorem kw_181 : (Jvm.Cond.fieldLink "MosaicCatalogue$History" 26 "MosaicCatalogue$History" "next" "I") ∈ js_ws := js_ws_of 181 (by decide +kernel) (by decide +kernel)
theorem kw_182 : (Jvm.Cond.fieldLink "MosaicCatalogue$History" 30 "MosaicCatalogue$History" "count" "I") ∈ js_ws := js_ws_of 182 (by decide +kernel) (by decide +kernel)
theorem kw_191 : (Jvm.Cond.classLink "MosaicCatalogue" 26 "MosaicCatalogue$Guesses") ∈ js_ws := js_ws_of 191 (by decide +kernel) (by decide +kernel)
theorem kw_192 : (Jvm.Cond.instantiable "MosaicCatalogue$Guesses" 4) ∈ js_ws := js_ws_of 192 (by decide +kernel) (by decide +kernel)
theorem kw_194 : (Jvm.Cond.instanceMethod ⟨"MosaicCatalogue$Guesses", "<init>", "()V"⟩) ∈ js_ws := js_ws_of 194 (by decide +kernel) (by decide +kernel)
theorem kw_196 : (Jvm.Cond.methodLink "MosaicCatalogue$Guesses" 3 ⟨"java/lang/Object", "<init>", "()V"⟩) ∈ js_ws := js_ws_of 196 (by decide +kernel) (by decide +kernel)
theorem kw_197 : (Jvm.Cond.fieldLink "MosaicCatalogue$Guesses" 9 "MosaicCatalogue$Guesses" "wanted" "[I") ∈ js_ws := js_ws_of 197 (by decide +kernel) (by decide +kernel)
theorem kw_198 : (Jvm.Cond.fieldLink "MosaicCatalogue$Guesses" 15 "MosaicCatalogue$Guesses" "colours" "[C") ∈ js_ws := js_ws_of 198 (by decide +kernel) (by decide +kernel)
theorem kw_199 : (Jvm.Cond.fieldLink "MosaicCatalogue$Guesses" 19 "MosaicCatalogue$Guesses" "weights" "[I") ∈ js_ws := js_ws_of 199 (by decide +kernel) (by decide +kernel)
theorem kw_200 : (Jvm.Cond.fieldLink "MosaicCatalogue$Guesses" 22 "MosaicCatalogue$Guesses" "gap" "I") ∈ js_ws := js_ws_of 200 (by decide +kernel) (by decide +kernel)
theorem kw_210 : (Jvm.Cond.arrayClass FieldType.char) ∈ js_ws := js_ws_of 210 (by decide +kernel) (by decide +kernel)
theorem kw_211 : (Jvm.Cond.classLink "MosaicCatalogue" 33 "MosaicCatalogue$Groups") ∈ js_ws := js_ws_of 211 (by decide +kernel) (by decide +kernel)
theorem kw_212 : (Jvm.Cond.instantiable "MosaicCatalogue$Groups" 2) ∈ js_ws := js_ws_of 212 (by decide +kernel) (by decide +kernel)
theorem kw_214 : (Jvm.Cond.instanceMethod ⟨"MosaicCatalogue$Groups", "<init>", "()V"⟩) ∈ js_ws := js_ws_of 214 (by decide +kernel) (by decide +kernel)
theorem kw_216 : (Jvm.Cond.methodLink "MosaicCatalogue$Groups" 3 ⟨"java/lang/Object", "<init>", "()V"⟩) ∈ js_ws := js_ws_of 216 (by decide +kernel) (by decide +kernel)
theorem kw_217 : (Jvm.Cond.classLink "MosaicCatalogue$Groups" 9 "MosaicCatalogue$Fragment") ∈ js_ws := js_ws_of 217 (by decide +kernel) (by decide +kernel)
theorem kw_218 : (Jvm.Cond.fieldLink "MosaicCatalogue$Groups" 11 "MosaicCatalogue$Groups" "queue" "[LMosaicCatalogue$Fragment;") ∈ js_ws := js_ws_of 218 (by decide +kernel) (by decide +kernel)
theorem kw_219 : (Jvm.Cond.fieldLink "MosaicCatalogue$Groups" 17 "MosaicCatalogue$Groups" "parents" "[I") ∈ js_ws := js_ws_of 219 (by decide +kernel) (by decide +kernel)
theorem kw_225 : (Jvm.Cond.classLink "MosaicCatalogue" 40 "MosaicCatalogue$Script") ∈ js_ws := js_ws_of 225 (by decide +kernel) (by decide +kernel)
theorem kw_226 : (Jvm.Cond.instantiable "MosaicCatalogue$Script" 5) ∈ js_ws := js_ws_of 226 (by decide +kernel) (by decide +kernel)
theorem kw_227 : (Jvm.Cond.methodLink "MosaicCatalogue" 42 ⟨"MosaicCatalogue$Script", "<init>", "()V"⟩) ∈ js_ws := js_ws_of 227 (by decide +kernel) (by decide +kernel)
theorem kw_228 : (Jvm.Cond.instanceMethod ⟨"MosaicCatalogue$Script", "<init>", "()V"⟩) ∈ js_ws := js_ws_of 228 (by decide +kernel) (by decide +kernel)
theorem kw_230 : (Jvm.Cond.methodLink "MosaicCatalogue$Script" 3 ⟨"java/lang/Object", "<init>", "()V"⟩) ∈ js_ws := js_ws_of 230 (by decide +kernel) (by decide +kernel)
theorem kw_231 : (Jvm.Cond.classLink "MosaicCatalogue$Script" 15 "MosaicCatalogue$Command") ∈ js_ws := js_ws_of 231 (by decide +kernel) (by decide +kernel)
theorem kw_233 : (Jvm.Cond.instantiable "MosaicCatalogue$Command" 2) ∈ js_ws := js_ws_of 233 (by decide +kernel) (by decide +kernel)
theorem kw_235 : (Jvm.Cond.instanceMethod ⟨"MosaicCatalogue$Command", "<init>", "()V"⟩) ∈ js_ws := js_ws_of 235 (by decide +kernel) (by decide +kernel)
theorem kw_237 : (Jvm.Cond.methodLink "MosaicCatalogue$Command" 1 ⟨"java/lang/Object", "<init>", "()V"⟩) ∈ js_ws := js_ws_of 237 (by decide +kernel) (by decide +kernel)
theorem kw_238 : (Jvm.Cond.fieldLink "MosaicCatalogue$Command" 7 "MosaicCatalogue$Keyword" "FILL" "LMosaicCatalogue$Keyword;") ∈ js_ws := js_ws_of 238 (by decide +kernel) (by decide +kernel)
theorem kw_240 : (Jvm.Cond.fieldLink "MosaicCatalogue$Command" 13 "MosaicCatalogue$Command" "keyword" "LMosaicCatalogue$Keyword;") ∈ js_ws := js_ws_of 240 (by decide +kernel) (by decide +kernel)
theorem kw_243 : (Jvm.Cond.fieldLink "MosaicCatalogue$Command" 18 "MosaicCatalogue$Command" "values" "[I") ∈ js_ws := js_ws_of 243 (by decide +kernel) (by decide +kernel)
theorem kw_251 : (Jvm.Cond.fieldLink "MosaicCatalogue$Script" 9 "MosaicCatalogue$Script" "text" "[C") ∈ js_ws := js_ws_of 251 (by decide +kernel) (by decide +kernel)
theorem kw_252 : (Jvm.Cond.fieldLink "MosaicCatalogue$Script" 22 "MosaicCatalogue$Script" "length" "I") ∈ js_ws := js_ws_of 252 (by decide +kernel) (by decide +kernel)
theorem kw_253 : (Jvm.Cond.fieldLink "MosaicCatalogue$Script" 26 "MosaicCatalogue$Script" "position" "I") ∈ js_ws := js_ws_of 253 (by decide +kernel) (by decide +kernel)
theorem kw_255 : (Jvm.Cond.fieldLink "MosaicCatalogue$Script" 17 "MosaicCatalogue$Script" "commands" "[LMosaicCatalogue$Command;") ∈ js_ws := js_ws_of 255 (by decide +kernel) (by decide +kernel)
theorem kw_257 : (Jvm.Cond.fieldLink "MosaicCatalogue$Script" 33 "MosaicCatalogue$Script" "commandCount" "I") ∈ js_ws := js_ws_of 257 (by decide +kernel) (by decide +kernel)
theorem kw_270 : (Jvm.Cond.fieldLink "MosaicCatalogue" 10 "MosaicCatalogue" "board" "LMosaicCatalogue$Board;") ∈ js_ws := js_ws_of 270 (by decide +kernel) (by decide +kernel)
theorem kw_271 : (Jvm.Cond.fieldLink "MosaicCatalogue" 16 "MosaicCatalogue" "saved" "LMosaicCatalogue$Board;") ∈ js_ws := js_ws_of 271 (by decide +kernel) (by decide +kernel)
theorem kw_272 : (Jvm.Cond.fieldLink "MosaicCatalogue" 358 "MosaicCatalogue" "isSaved" "Z") ∈ js_ws := js_ws_of 272 (by decide +kernel) (by decide +kernel)
theorem kw_273 : (Jvm.Cond.fieldLink "MosaicCatalogue" 22 "MosaicCatalogue" "history" "LMosaicCatalogue$History;") ∈ js_ws := js_ws_of 273 (by decide +kernel) (by decide +kernel)
theorem kw_274 : (Jvm.Cond.fieldLink "MosaicCatalogue" 29 "MosaicCatalogue" "guesses" "LMosaicCatalogue$Guesses;") ∈ js_ws := js_ws_of 274 (by decide +kernel) (by decide +kernel)
theorem kw_275 : (Jvm.Cond.fieldLink "MosaicCatalogue" 36 "MosaicCatalogue" "groups" "LMosaicCatalogue$Groups;") ∈ js_ws := js_ws_of 275 (by decide +kernel) (by decide +kernel)
theorem kw_276 : (Jvm.Cond.fieldLink "MosaicCatalogue" 43 "MosaicCatalogue" "script" "LMosaicCatalogue$Script;") ∈ js_ws := js_ws_of 276 (by decide +kernel) (by decide +kernel)
theorem kw_277 : (Jvm.Cond.fieldLink "MosaicCatalogue" 47 "MosaicCatalogue" "output" "[C") ∈ js_ws := js_ws_of 277 (by decide +kernel) (by decide +kernel)
theorem kw_278 : (Jvm.Cond.fieldLink "MosaicCatalogue" 294 "MosaicCatalogue" "outputLength" "I") ∈ js_ws := js_ws_of 278 (by decide +kernel) (by decide +kernel)
theorem kw_279 : (Jvm.Cond.fieldLink "MosaicCatalogue" 51 "MosaicCatalogue" "keptPosition" "I") ∈ js_ws := js_ws_of 279 (by decide +kernel) (by decide +kernel)
theorem kw_280 : (Jvm.Cond.fieldLink "MosaicCatalogue" 55 "MosaicCatalogue" "keptCommand" "I") ∈ js_ws := js_ws_of 280 (by decide +kernel) (by decide +kernel)
theorem kw_312 : (Jvm.Cond.methodLink "MosaicCatalogue" 76 ⟨"MosaicCatalogue$Board", "countOnGrid", "()I"⟩) ∈ js_ws := js_ws_of 312 (by decide +kernel) (by decide +kernel)
theorem kw_313 : (Jvm.Cond.instanceMethod ⟨"MosaicCatalogue$Board", "countOnGrid", "()I"⟩) ∈ js_ws := js_ws_of 313 (by decide +kernel) (by decide +kernel)
theorem kw_314 : (Jvm.Cond.selects "MosaicCatalogue$Board" ⟨"MosaicCatalogue$Board", "countOnGrid", "()I"⟩ ⟨"MosaicCatalogue$Board", "countOnGrid", "()I"⟩) ∈ js_ws := js_ws_of 314 (by decide +kernel) (by decide +kernel)
theorem kw_316 : (Jvm.Cond.methodLink "MosaicCatalogue$Board" 32 ⟨"MosaicCatalogue$Fragment", "isOnGrid", "()Z"⟩) ∈ js_ws := js_ws_of 316 (by decide +kernel) (by decide +kernel)
theorem kw_317 : (Jvm.Cond.instanceMethod ⟨"MosaicCatalogue$Fragment", "isOnGrid", "()Z"⟩) ∈ js_ws := js_ws_of 317 (by decide +kernel) (by decide +kernel)
theorem kw_318 : (Jvm.Cond.selects "MosaicCatalogue$Fragment" ⟨"MosaicCatalogue$Fragment", "isOnGrid", "()Z"⟩ ⟨"MosaicCatalogue$Fragment", "isOnGrid", "()Z"⟩) ∈ js_ws := js_ws_of 318 (by decide +kernel) (by decide +kernel)
theorem kw_324 : (Jvm.Cond.methodLink "MosaicCatalogue" 96 ⟨"MosaicCatalogue$Board", "find", "(I)LMosaicCatalogue$Fragment;"⟩) ∈ js_ws := js_ws_of 324 (by decide +kernel) (by decide +kernel)
theorem kw_325 : (Jvm.Cond.instanceMethod ⟨"MosaicCatalogue$Board", "find", "(I)LMosaicCatalogue$Fragment;"⟩) ∈ js_ws := js_ws_of 325 (by decide +kernel) (by decide +kernel)
theorem kw_326 : (Jvm.Cond.selects "MosaicCatalogue$Board" ⟨"MosaicCatalogue$Board", "find", "(I)LMosaicCatalogue$Fragment;"⟩ ⟨"MosaicCatalogue$Board", "find", "(I)LMosaicCatalogue$Fragment;"⟩) ∈ js_ws := js_ws_of 326 (by decide +kernel) (by decide +kernel)
theorem kw_328 : (Jvm.Cond.methodLink "MosaicCatalogue$Board" 42 ⟨"MosaicCatalogue$Board", "indexOf", "(I)I"⟩) ∈ js_ws := js_ws_of 328 (by decide +kernel) (by decide +kernel)
theorem kw_330 : (Jvm.Cond.instanceMethod ⟨"MosaicCatalogue$Board", "indexOf", "(I)I"⟩) ∈ js_ws := js_ws_of 330 (by decide +kernel) (by decide +kernel)
theorem kw_336 : (Jvm.Cond.methodLink "MosaicCatalogue" 113 ⟨"MosaicCatalogue$Fragment", "edgeAt", "(I)I"⟩) ∈ js_ws := js_ws_of 336 (by decide +kernel) (by decide +kernel)
theorem kw_337 : (Jvm.Cond.instanceMethod ⟨"MosaicCatalogue$Fragment", "edgeAt", "(I)I"⟩) ∈ js_ws := js_ws_of 337 (by decide +kernel) (by decide +kernel)
theorem kw_338 : (Jvm.Cond.selects "MosaicCatalogue$Fragment" ⟨"MosaicCatalogue$Fragment", "edgeAt", "(I)I"⟩ ⟨"MosaicCatalogue$Fragment", "edgeAt", "(I)I"⟩) ∈ js_ws := js_ws_of 338 (by decide +kernel) (by decide +kernel)
theorem kw_340 : (Jvm.Cond.methodLink "MosaicCatalogue" 130 ⟨"java/lang/Integer", "bitCount", "(I)I"⟩) ∈ js_ws := js_ws_of 340 (by decide +kernel) (by decide +kernel)
theorem kw_341 : (Jvm.Cond.static ⟨"java/lang/Integer", "bitCount", "(I)I"⟩) ∈ js_ws := js_ws_of 341 (by decide +kernel) (by decide +kernel)
theorem kw_343 : (Jvm.Cond.constant "java/lang/Integer" 265 1431655765) ∈ js_ws := js_ws_of 343 (by decide +kernel) (by decide +kernel)
theorem kw_344 : (Jvm.Cond.constant "java/lang/Integer" 266 858993459) ∈ js_ws := js_ws_of 344 (by decide +kernel) (by decide +kernel)
theorem kw_345 : (Jvm.Cond.constant "java/lang/Integer" 267 252645135) ∈ js_ws := js_ws_of 345 (by decide +kernel) (by decide +kernel)
theorem kw_350 : (Jvm.Cond.methodLink "MosaicCatalogue" 58 ⟨"MosaicCatalogue$History", "prepare", "(LMosaicCatalogue$Board;)V"⟩) ∈ js_ws := js_ws_of 350 (by decide +kernel) (by decide +kernel)
theorem kw_351 : (Jvm.Cond.instanceMethod ⟨"MosaicCatalogue$History", "prepare", "(LMosaicCatalogue$Board;)V"⟩) ∈ js_ws := js_ws_of 351 (by decide +kernel) (by decide +kernel)
theorem kw_352 : (Jvm.Cond.selects "MosaicCatalogue$History" ⟨"MosaicCatalogue$History", "prepare", "(LMosaicCatalogue$Board;)V"⟩ ⟨"MosaicCatalogue$History", "prepare", "(LMosaicCatalogue$Board;)V"⟩) ∈ js_ws := js_ws_of 352 (by decide +kernel) (by decide +kernel)
theorem kw_354 : (Jvm.Cond.methodLink "MosaicCatalogue$History" 18 ⟨"MosaicCatalogue$History", "prepared", "()LMosaicCatalogue$Board;"⟩) ∈ js_ws := js_ws_of 354 (by decide +kernel) (by decide +kernel)
theorem kw_355 : (Jvm.Cond.instanceMethod ⟨"MosaicCatalogue$History", "prepared", "()LMosaicCatalogue$Board;"⟩) ∈ js_ws := js_ws_of 355 (by decide +kernel) (by decide +kernel)
theorem kw_356 : (Jvm.Cond.selects "MosaicCatalogue$History" ⟨"MosaicCatalogue$History", "prepared", "()LMosaicCatalogue$Board;"⟩ ⟨"MosaicCatalogue$History", "prepared", "()LMosaicCatalogue$Board;"⟩) ∈ js_ws := js_ws_of 356 (by decide +kernel) (by decide +kernel)
theorem kw_358 : (Jvm.Cond.methodLink "MosaicCatalogue$History" 22 ⟨"MosaicCatalogue$Board", "copyFrom", "(LMosaicCatalogue$Board;)V"⟩) ∈ js_ws := js_ws_of 358 (by decide +kernel) (by decide +kernel)
theorem kw_359 : (Jvm.Cond.instanceMethod ⟨"MosaicCatalogue$Board", "copyFrom", "(LMosaicCatalogue$Board;)V"⟩) ∈ js_ws := js_ws_of 359 (by decide +kernel) (by decide +kernel)
theorem kw_360 : (Jvm.Cond.selects "MosaicCatalogue$Board" ⟨"MosaicCatalogue$Board", "copyFrom", "(LMosaicCatalogue$Board;)V"⟩ ⟨"MosaicCatalogue$Board", "copyFrom", "(LMosaicCatalogue$Board;)V"⟩) ∈ js_ws := js_ws_of 360 (by decide +kernel) (by decide +kernel)
theorem kw_362 : (Jvm.Cond.methodLink "MosaicCatalogue$Board" 28 ⟨"MosaicCatalogue$Fragment", "copyFrom", "(LMosaicCatalogue$Fragment;)V"⟩) ∈ js_ws := js_ws_of 362 (by decide +kernel) (by decide +kernel)
theorem kw_363 : (Jvm.Cond.instanceMethod ⟨"MosaicCatalogue$Fragment", "copyFrom", "(LMosaicCatalogue$Fragment;)V"⟩) ∈ js_ws := js_ws_of 363 (by decide +kernel) (by decide +kernel)
theorem kw_364 : (Jvm.Cond.selects "MosaicCatalogue$Fragment" ⟨"MosaicCatalogue$Fragment", "copyFrom", "(LMosaicCatalogue$Fragment;)V"⟩ ⟨"MosaicCatalogue$Fragment", "copyFrom", "(LMosaicCatalogue$Fragment;)V"⟩) ∈ js_ws := js_ws_of 364 (by decide +kernel) (by decide +kernel)
theorem kw_366 : (Jvm.Cond.methodLink "MosaicCatalogue$Fragment" 29 ⟨"java/lang/System", "arraycopy", "(Ljava/lang/Object;ILjava/lang/Object;II)V"⟩) ∈ js_ws := js_ws_of 366 (by decide +kernel) (by decide +kernel)
theorem kw_367 : (Jvm.Cond.static ⟨"java/lang/System", "arraycopy", "(Ljava/lang/Object;ILjava/lang/Object;II)V"⟩) ∈ js_ws := js_ws_of 367 (by decide +kernel) (by decide +kernel)
theorem kw_368 : (Jvm.Cond.native ⟨"java/lang/System", "arraycopy", "(Ljava/lang/Object;ILjava/lang/Object;II)V"⟩) ∈ js_ws := js_ws_of 368 (by decide +kernel) (by decide +kernel)
theorem kw_369 : (Jvm.Cond.methodLink "MosaicCatalogue" 160 ⟨"MosaicCatalogue$Guesses", "fillGaps", "(LMosaicCatalogue$Board;)I"⟩) ∈ js_ws := js_ws_of 369 (by decide +kernel) (by decide +kernel)
theorem kw_370 : (Jvm.Cond.instanceMethod ⟨"MosaicCatalogue$Guesses", "fillGaps", "(LMosaicCatalogue$Board;)I"⟩) ∈ js_ws := js_ws_of 370 (by decide +kernel) (by decide +kernel)
theorem kw_371 : (Jvm.Cond.selects "MosaicCatalogue$Guesses" ⟨"MosaicCatalogue$Guesses", "fillGaps", "(LMosaicCatalogue$Board;)I"⟩ ⟨"MosaicCatalogue$Guesses", "fillGaps", "(LMosaicCatalogue$Board;)I"⟩) ∈ js_ws := js_ws_of 371 (by decide +kernel) (by decide +kernel)
theorem kw_373 : (Jvm.Cond.methodLink "MosaicCatalogue$Guesses" 99 ⟨"MosaicCatalogue$Guesses", "bestGap", "(LMosaicCatalogue$Board;)I"⟩) ∈ js_ws := js_ws_of 373 (by decide +kernel) (by decide +kernel)
theorem kw_375 : (Jvm.Cond.instanceMethod ⟨"MosaicCatalogue$Guesses", "bestGap", "(LMosaicCatalogue$Board;)I"⟩) ∈ js_ws := js_ws_of 375 (by decide +kernel) (by decide +kernel)
theorem kw_377 : (Jvm.Cond.methodLink "MosaicCatalogue$Guesses" 87 ⟨"MosaicCatalogue$Board", "isGap", "(I)Z"⟩) ∈ js_ws := js_ws_of 377 (by decide +kernel) (by decide +kernel)
theorem kw_378 : (Jvm.Cond.instanceMethod ⟨"MosaicCatalogue$Board", "isGap", "(I)Z"⟩) ∈ js_ws := js_ws_of 378 (by decide +kernel) (by decide +kernel)
theorem kw_379 : (Jvm.Cond.selects "MosaicCatalogue$Board" ⟨"MosaicCatalogue$Board", "isGap", "(I)Z"⟩ ⟨"MosaicCatalogue$Board", "isGap", "(I)Z"⟩) ∈ js_ws := js_ws_of 379 (by decide +kernel) (by decide +kernel)
theorem kw_381 : (Jvm.Cond.methodLink "MosaicCatalogue$Board" 91 ⟨"MosaicCatalogue$Board", "countNeighbours", "(I)I"⟩) ∈ js_ws := js_ws_of 381 (by decide +kernel) (by decide +kernel)
theorem kw_382 : (Jvm.Cond.instanceMethod ⟨"MosaicCatalogue$Board", "countNeighbours", "(I)I"⟩) ∈ js_ws := js_ws_of 382 (by decide +kernel) (by decide +kernel)
theorem kw_383 : (Jvm.Cond.selects "MosaicCatalogue$Board" ⟨"MosaicCatalogue$Board", "countNeighbours", "(I)I"⟩ ⟨"MosaicCatalogue$Board", "countNeighbours", "(I)I"⟩) ∈ js_ws := js_ws_of 383 (by decide +kernel) (by decide +kernel)
theorem kw_385 : (Jvm.Cond.methodLink "MosaicCatalogue$Board" 87 ⟨"MosaicCatalogue$Board", "neighbour", "(II)LMosaicCatalogue$Fragment;"⟩) ∈ js_ws := js_ws_of 385 (by decide +kernel) (by decide +kernel)
theorem kw_386 : (Jvm.Cond.instanceMethod ⟨"MosaicCatalogue$Board", "neighbour", "(II)LMosaicCatalogue$Fragment;"⟩) ∈ js_ws := js_ws_of 386 (by decide +kernel) (by decide +kernel)
theorem kw_387 : (Jvm.Cond.selects "MosaicCatalogue$Board" ⟨"MosaicCatalogue$Board", "neighbour", "(II)LMosaicCatalogue$Fragment;"⟩ ⟨"MosaicCatalogue$Board", "neighbour", "(II)LMosaicCatalogue$Fragment;"⟩) ∈ js_ws := js_ws_of 387 (by decide +kernel) (by decide +kernel)
theorem kw_393 : (Jvm.Cond.methodLink "MosaicCatalogue$Guesses" 91 ⟨"MosaicCatalogue$Guesses", "lookAt", "(LMosaicCatalogue$Board;I)V"⟩) ∈ js_ws := js_ws_of 393 (by decide +kernel) (by decide +kernel)
theorem kw_394 : (Jvm.Cond.instanceMethod ⟨"MosaicCatalogue$Guesses", "lookAt", "(LMosaicCatalogue$Board;I)V"⟩) ∈ js_ws := js_ws_of 394 (by decide +kernel) (by decide +kernel)
theorem kw_395 : (Jvm.Cond.selects "MosaicCatalogue$Guesses" ⟨"MosaicCatalogue$Guesses", "lookAt", "(LMosaicCatalogue$Board;I)V"⟩ ⟨"MosaicCatalogue$Guesses", "lookAt", "(LMosaicCatalogue$Board;I)V"⟩) ∈ js_ws := js_ws_of 395 (by decide +kernel) (by decide +kernel)
theorem kw_397 : (Jvm.Cond.methodLink "MosaicCatalogue$Guesses" 26 ⟨"MosaicCatalogue$Board", "neighbour", "(II)LMosaicCatalogue$Fragment;"⟩) ∈ js_ws := js_ws_of 397 (by decide +kernel) (by decide +kernel)
theorem kw_399 : (Jvm.Cond.static ⟨"MosaicCatalogue", "opposite", "(I)I"⟩) ∈ js_ws := js_ws_of 399 (by decide +kernel) (by decide +kernel)
theorem kw_401 : (Jvm.Cond.methodLink "MosaicCatalogue$Guesses" 36 ⟨"MosaicCatalogue$Fragment", "edgeAt", "(I)I"⟩) ∈ js_ws := js_ws_of 401 (by decide +kernel) (by decide +kernel)
theorem kw_402 : (Jvm.Cond.methodLink "MosaicCatalogue$Guesses" 95 ⟨"MosaicCatalogue$Guesses", "topWeightAbove", "(ILMosaicCatalogue$Board;)I"⟩) ∈ js_ws := js_ws_of 402 (by decide +kernel) (by decide +kernel)
theorem kw_404 : (Jvm.Cond.instanceMethod ⟨"MosaicCatalogue$Guesses", "topWeightAbove", "(ILMosaicCatalogue$Board;)I"⟩) ∈ js_ws := js_ws_of 404 (by decide +kernel) (by decide +kernel)
theorem kw_406 : (Jvm.Cond.methodLink "MosaicCatalogue$Guesses" 69 ⟨"MosaicCatalogue$Fragment", "isOnGrid", "()Z"⟩) ∈ js_ws := js_ws_of 406 (by decide +kernel) (by decide +kernel)
theorem kw_407 : (Jvm.Cond.methodLink "MosaicCatalogue$Guesses" 65 ⟨"MosaicCatalogue$Guesses", "topWeight", "(LMosaicCatalogue$Fragment;)I"⟩) ∈ js_ws := js_ws_of 407 (by decide +kernel) (by decide +kernel)
theorem kw_409 : (Jvm.Cond.instanceMethod ⟨"MosaicCatalogue$Guesses", "topWeight", "(LMosaicCatalogue$Fragment;)I"⟩) ∈ js_ws := js_ws_of 409 (by decide +kernel) (by decide +kernel)
theorem kw_411 : (Jvm.Cond.methodLink "MosaicCatalogue$Guesses" 48 ⟨"MosaicCatalogue$Guesses", "weightOf", "(LMosaicCatalogue$Fragment;I)I"⟩) ∈ js_ws := js_ws_of 411 (by decide +kernel) (by decide +kernel)
theorem kw_412 : (Jvm.Cond.instanceMethod ⟨"MosaicCatalogue$Guesses", "weightOf", "(LMosaicCatalogue$Fragment;I)I"⟩) ∈ js_ws := js_ws_of 412 (by decide +kernel) (by decide +kernel)
theorem kw_413 : (Jvm.Cond.selects "MosaicCatalogue$Guesses" ⟨"MosaicCatalogue$Guesses", "weightOf", "(LMosaicCatalogue$Fragment;I)I"⟩ ⟨"MosaicCatalogue$Guesses", "weightOf", "(LMosaicCatalogue$Fragment;I)I"⟩) ∈ js_ws := js_ws_of 413 (by decide +kernel) (by decide +kernel)
theorem kw_415 : (Jvm.Cond.methodLink "MosaicCatalogue$Guesses" 52 ⟨"java/lang/Math", "max", "(II)I"⟩) ∈ js_ws := js_ws_of 415 (by decide +kernel) (by decide +kernel)
theorem kw_416 : (Jvm.Cond.static ⟨"java/lang/Math", "max", "(II)I"⟩) ∈ js_ws := js_ws_of 416 (by decide +kernel) (by decide +kernel)
theorem kw_418 : (Jvm.Cond.methodLink "MosaicCatalogue$Guesses" 103 ⟨"MosaicCatalogue$Guesses", "pieceOfRank", "(LMosaicCatalogue$Board;I)LMosaicCatalogue$Fragment;"⟩) ∈ js_ws := js_ws_of 418 (by decide +kernel) (by decide +kernel)
theorem kw_419 : (Jvm.Cond.instanceMethod ⟨"MosaicCatalogue$Guesses", "pieceOfRank", "(LMosaicCatalogue$Board;I)LMosaicCatalogue$Fragment;"⟩) ∈ js_ws := js_ws_of 419 (by decide +kernel) (by decide +kernel)
theorem kw_420 : (Jvm.Cond.selects "MosaicCatalogue$Guesses" ⟨"MosaicCatalogue$Guesses", "pieceOfRank", "(LMosaicCatalogue$Board;I)LMosaicCatalogue$Fragment;"⟩ ⟨"MosaicCatalogue$Guesses", "pieceOfRank", "(LMosaicCatalogue$Board;I)LMosaicCatalogue$Fragment;"⟩) ∈ js_ws := js_ws_of 420 (by decide +kernel) (by decide +kernel)
theorem kw_422 : (Jvm.Cond.methodLink "MosaicCatalogue$Guesses" 73 ⟨"MosaicCatalogue$Guesses", "rankOf", "(LMosaicCatalogue$Board;I)I"⟩) ∈ js_ws := js_ws_of 422 (by decide +kernel) (by decide +kernel)
theorem kw_424 : (Jvm.Cond.instanceMethod ⟨"MosaicCatalogue$Guesses", "rankOf", "(LMosaicCatalogue$Board;I)I"⟩) ∈ js_ws := js_ws_of 424 (by decide +kernel) (by decide +kernel)
theorem kw_426 : (Jvm.Cond.methodLink "MosaicCatalogue$Guesses" 107 ⟨"MosaicCatalogue$Guesses", "putGuess", "(LMosaicCatalogue$Board;LMosaicCatalogue$Fragment;)V"⟩) ∈ js_ws := js_ws_of 426 (by decide +kernel) (by decide +kernel)
theorem kw_427 : (Jvm.Cond.instanceMethod ⟨"MosaicCatalogue$Guesses", "putGuess", "(LMosaicCatalogue$Board;LMosaicCatalogue$Fragment;)V"⟩) ∈ js_ws := js_ws_of 427 (by decide +kernel) (by decide +kernel)
theorem kw_428 : (Jvm.Cond.selects "MosaicCatalogue$Guesses" ⟨"MosaicCatalogue$Guesses", "putGuess", "(LMosaicCatalogue$Board;LMosaicCatalogue$Fragment;)V"⟩ ⟨"MosaicCatalogue$Guesses", "putGuess", "(LMosaicCatalogue$Board;LMosaicCatalogue$Fragment;)V"⟩) ∈ js_ws := js_ws_of 428 (by decide +kernel) (by decide +kernel)
theorem kw_430 : (Jvm.Cond.methodLink "MosaicCatalogue$Guesses" 77 ⟨"MosaicCatalogue$Guesses", "turnFor", "(LMosaicCatalogue$Fragment;)I"⟩) ∈ js_ws := js_ws_of 430 (by decide +kernel) (by decide +kernel)
theorem kw_431 : (Jvm.Cond.instanceMethod ⟨"MosaicCatalogue$Guesses", "turnFor", "(LMosaicCatalogue$Fragment;)I"⟩) ∈ js_ws := js_ws_of 431 (by decide +kernel) (by decide +kernel)
theorem kw_432 : (Jvm.Cond.selects "MosaicCatalogue$Guesses" ⟨"MosaicCatalogue$Guesses", "turnFor", "(LMosaicCatalogue$Fragment;)I"⟩ ⟨"MosaicCatalogue$Guesses", "turnFor", "(LMosaicCatalogue$Fragment;)I"⟩) ∈ js_ws := js_ws_of 432 (by decide +kernel) (by decide +kernel)
theorem kw_434 : (Jvm.Cond.methodLink "MosaicCatalogue$Guesses" 83 ⟨"MosaicCatalogue$Board", "lay", "(LMosaicCatalogue$Fragment;I)V"⟩) ∈ js_ws := js_ws_of 434 (by decide +kernel) (by decide +kernel)
theorem kw_435 : (Jvm.Cond.instanceMethod ⟨"MosaicCatalogue$Board", "lay", "(LMosaicCatalogue$Fragment;I)V"⟩) ∈ js_ws := js_ws_of 435 (by decide +kernel) (by decide +kernel)
theorem kw_436 : (Jvm.Cond.selects "MosaicCatalogue$Board" ⟨"MosaicCatalogue$Board", "lay", "(LMosaicCatalogue$Fragment;I)V"⟩ ⟨"MosaicCatalogue$Board", "lay", "(LMosaicCatalogue$Fragment;I)V"⟩) ∈ js_ws := js_ws_of 436 (by decide +kernel) (by decide +kernel)
theorem kw_438 : (Jvm.Cond.methodLink "MosaicCatalogue" 66 ⟨"MosaicCatalogue", "settle", "(I)I"⟩) ∈ js_ws := js_ws_of 438 (by decide +kernel) (by decide +kernel)
theorem kw_440 : (Jvm.Cond.instanceMethod ⟨"MosaicCatalogue", "settle", "(I)I"⟩) ∈ js_ws := js_ws_of 440 (by decide +kernel) (by decide +kernel)
theorem kw_442 : (Jvm.Cond.methodLink "MosaicCatalogue" 365 ⟨"MosaicCatalogue", "throwIfRefused", "(I)V"⟩) ∈ js_ws := js_ws_of 442 (by decide +kernel) (by decide +kernel)
theorem kw_443 : (Jvm.Cond.static ⟨"MosaicCatalogue", "throwIfRefused", "(I)V"⟩) ∈ js_ws := js_ws_of 443 (by decide +kernel) (by decide +kernel)
theorem kw_445 : (Jvm.Cond.classLink "MosaicCatalogue" 170 "java/util/NoSuchElementException") ∈ js_ws := js_ws_of 445 (by decide +kernel) (by decide +kernel)
theorem kw_517 : (Jvm.Cond.classLink "MosaicCatalogue" 84 "java/lang/IndexOutOfBoundsException") ∈ js_ws := js_ws_of 517 (by decide +kernel) (by decide +kernel)
theorem kw_533 : (Jvm.Cond.classLink "MosaicCatalogue" 183 "java/lang/IllegalArgumentException") ∈ js_ws := js_ws_of 533 (by decide +kernel) (by decide +kernel)
theorem kw_549 : (Jvm.Cond.classLink "MosaicCatalogue" 305 "java/lang/IllegalStateException") ∈ js_ws := js_ws_of 549 (by decide +kernel) (by decide +kernel)
theorem kw_565 : (Jvm.Cond.methodLink "MosaicCatalogue" 368 ⟨"MosaicCatalogue$History", "keep", "()V"⟩) ∈ js_ws := js_ws_of 565 (by decide +kernel) (by decide +kernel)
theorem kw_566 : (Jvm.Cond.instanceMethod ⟨"MosaicCatalogue$History", "keep", "()V"⟩) ∈ js_ws := js_ws_of 566 (by decide +kernel) (by decide +kernel)
theorem kw_567 : (Jvm.Cond.selects "MosaicCatalogue$History" ⟨"MosaicCatalogue$History", "keep", "()V"⟩ ⟨"MosaicCatalogue$History", "keep", "()V"⟩) ∈ js_ws := js_ws_of 567 (by decide +kernel) (by decide +kernel)
theorem kw_569 : (Jvm.Cond.methodLink "MosaicCatalogue$History" 33 ⟨"java/lang/Math", "min", "(II)I"⟩) ∈ js_ws := js_ws_of 569 (by decide +kernel) (by decide +kernel)
theorem kw_570 : (Jvm.Cond.static ⟨"java/lang/Math", "min", "(II)I"⟩) ∈ js_ws := js_ws_of 570 (by decide +kernel) (by decide +kernel)
theorem kw_573 : (Jvm.Cond.instanceMethod ⟨"MosaicCatalogue", "placedMask", "()J"⟩) ∈ js_ws := js_ws_of 573 (by decide +kernel) (by decide +kernel)
theorem kw_574 : (Jvm.Cond.selects "MosaicCatalogue" ⟨"MosaicCatalogue", "placedMask", "()J"⟩ ⟨"MosaicCatalogue", "placedMask", "()J"⟩) ∈ js_ws := js_ws_of 574 (by decide +kernel) (by decide +kernel)
theorem kw_576 : (Jvm.Cond.methodLink "MosaicCatalogue" 175 ⟨"MosaicCatalogue", "bit", "(I)J"⟩) ∈ js_ws := js_ws_of 576 (by decide +kernel) (by decide +kernel)
theorem kw_577 : (Jvm.Cond.static ⟨"MosaicCatalogue", "bit", "(I)J"⟩) ∈ js_ws := js_ws_of 577 (by decide +kernel) (by decide +kernel)
theorem kw_580 : (Jvm.Cond.instanceMethod ⟨"MosaicCatalogue", "gapMask", "()J"⟩) ∈ js_ws := js_ws_of 580 (by decide +kernel) (by decide +kernel)
theorem kw_581 : (Jvm.Cond.selects "MosaicCatalogue" ⟨"MosaicCatalogue", "gapMask", "()J"⟩ ⟨"MosaicCatalogue", "gapMask", "()J"⟩) ∈ js_ws := js_ws_of 581 (by decide +kernel) (by decide +kernel)
theorem kw_583 : (Jvm.Cond.methodLink "MosaicCatalogue" 188 ⟨"MosaicCatalogue$Board", "isGap", "(I)Z"⟩) ∈ js_ws := js_ws_of 583 (by decide +kernel) (by decide +kernel)
theorem kw_585 : (Jvm.Cond.instanceMethod ⟨"MosaicCatalogue", "gapMaskByShifts", "()J"⟩) ∈ js_ws := js_ws_of 585 (by decide +kernel) (by decide +kernel)
theorem kw_586 : (Jvm.Cond.selects "MosaicCatalogue" ⟨"MosaicCatalogue", "gapMaskByShifts", "()J"⟩ ⟨"MosaicCatalogue", "gapMaskByShifts", "()J"⟩) ∈ js_ws := js_ws_of 586 (by decide +kernel) (by decide +kernel)
theorem kw_588 : (Jvm.Cond.methodLink "MosaicCatalogue" 192 ⟨"MosaicCatalogue", "placedMask", "()J"⟩) ∈ js_ws := js_ws_of 588 (by decide +kernel) (by decide +kernel)
theorem kw_589 : (Jvm.Cond.constantLong "MosaicCatalogue" 196 9187201950435737471) ∈ js_ws := js_ws_of 589 (by decide +kernel) (by decide +kernel)
theorem kw_590 : (Jvm.Cond.constantLong "MosaicCatalogue" 198 (-72340172838076674)) ∈ js_ws := js_ws_of 590 (by decide +kernel) (by decide +kernel)
theorem kw_591 : (Jvm.Cond.constantLong "MosaicCatalogue" 200 (-1)) ∈ js_ws := js_ws_of 591 (by decide +kernel) (by decide +kernel)
theorem kw_596 : (Jvm.Cond.methodLink "MosaicCatalogue" 202 ⟨"MosaicCatalogue", "gapMask", "()J"⟩) ∈ js_ws := js_ws_of 596 (by decide +kernel) (by decide +kernel)
theorem kw_597 : (Jvm.Cond.methodLink "MosaicCatalogue" 205 ⟨"java/lang/Long", "bitCount", "(J)I"⟩) ∈ js_ws := js_ws_of 597 (by decide +kernel) (by decide +kernel)
theorem kw_598 : (Jvm.Cond.static ⟨"java/lang/Long", "bitCount", "(J)I"⟩) ∈ js_ws := js_ws_of 598 (by decide +kernel) (by decide +kernel)
theorem kw_600 : (Jvm.Cond.constantLong "java/lang/Long" 314 6148914691236517205) ∈ js_ws := js_ws_of 600 (by decide +kernel) (by decide +kernel)
theorem kw_601 : (Jvm.Cond.constantLong "java/lang/Long" 316 3689348814741910323) ∈ js_ws := js_ws_of 601 (by decide +kernel) (by decide +kernel)
theorem kw_602 : (Jvm.Cond.constantLong "java/lang/Long" 318 1085102592571150095) ∈ js_ws := js_ws_of 602 (by decide +kernel) (by decide +kernel)
theorem kw_607 : (Jvm.Cond.methodLink "MosaicCatalogue" 210 ⟨"MosaicCatalogue$Board", "countPairs", "(Z)I"⟩) ∈ js_ws := js_ws_of 607 (by decide +kernel) (by decide +kernel)
theorem kw_608 : (Jvm.Cond.instanceMethod ⟨"MosaicCatalogue$Board", "countPairs", "(Z)I"⟩) ∈ js_ws := js_ws_of 608 (by decide +kernel) (by decide +kernel)
theorem kw_609 : (Jvm.Cond.selects "MosaicCatalogue$Board" ⟨"MosaicCatalogue$Board", "countPairs", "(Z)I"⟩ ⟨"MosaicCatalogue$Board", "countPairs", "(Z)I"⟩) ∈ js_ws := js_ws_of 609 (by decide +kernel) (by decide +kernel)
theorem kw_611 : (Jvm.Cond.methodLink "MosaicCatalogue$Board" 100 ⟨"MosaicCatalogue$Board", "meets", "(LMosaicCatalogue$Fragment;IZ)Z"⟩) ∈ js_ws := js_ws_of 611 (by decide +kernel) (by decide +kernel)
theorem kw_612 : (Jvm.Cond.instanceMethod ⟨"MosaicCatalogue$Board", "meets", "(LMosaicCatalogue$Fragment;IZ)Z"⟩) ∈ js_ws := js_ws_of 612 (by decide +kernel) (by decide +kernel)
theorem kw_613 : (Jvm.Cond.selects "MosaicCatalogue$Board" ⟨"MosaicCatalogue$Board", "meets", "(LMosaicCatalogue$Fragment;IZ)Z"⟩ ⟨"MosaicCatalogue$Board", "meets", "(LMosaicCatalogue$Fragment;IZ)Z"⟩) ∈ js_ws := js_ws_of 613 (by decide +kernel) (by decide +kernel)
theorem kw_615 : (Jvm.Cond.methodLink "MosaicCatalogue$Board" 94 ⟨"MosaicCatalogue$Fragment", "edgeAt", "(I)I"⟩) ∈ js_ws := js_ws_of 615 (by decide +kernel) (by decide +kernel)
theorem kw_622 : (Jvm.Cond.instanceMethod ⟨"MosaicCatalogue", "groupCount", "()I"⟩) ∈ js_ws := js_ws_of 622 (by decide +kernel) (by decide +kernel)
theorem kw_623 : (Jvm.Cond.selects "MosaicCatalogue" ⟨"MosaicCatalogue", "groupCount", "()I"⟩ ⟨"MosaicCatalogue", "groupCount", "()I"⟩) ∈ js_ws := js_ws_of 623 (by decide +kernel) (by decide +kernel)
theorem kw_625 : (Jvm.Cond.methodLink "MosaicCatalogue" 250 ⟨"MosaicCatalogue$Groups", "countBySearch", "(LMosaicCatalogue$Board;)I"⟩) ∈ js_ws := js_ws_of 625 (by decide +kernel) (by decide +kernel)
theorem kw_626 : (Jvm.Cond.instanceMethod ⟨"MosaicCatalogue$Groups", "countBySearch", "(LMosaicCatalogue$Board;)I"⟩) ∈ js_ws := js_ws_of 626 (by decide +kernel) (by decide +kernel)
theorem kw_627 : (Jvm.Cond.selects "MosaicCatalogue$Groups" ⟨"MosaicCatalogue$Groups", "countBySearch", "(LMosaicCatalogue$Board;)I"⟩ ⟨"MosaicCatalogue$Groups", "countBySearch", "(LMosaicCatalogue$Board;)I"⟩) ∈ js_ws := js_ws_of 627 (by decide +kernel) (by decide +kernel)
theorem kw_629 : (Jvm.Cond.methodLink "MosaicCatalogue$Groups" 45 ⟨"MosaicCatalogue$Fragment", "isOnGrid", "()Z"⟩) ∈ js_ws := js_ws_of 629 (by decide +kernel) (by decide +kernel)
theorem kw_631 : (Jvm.Cond.methodLink "MosaicCatalogue$Groups" 49 ⟨"MosaicCatalogue$Groups", "search", "(LMosaicCatalogue$Board;LMosaicCatalogue$Fragment;)J"⟩) ∈ js_ws := js_ws_of 631 (by decide +kernel) (by decide +kernel)
theorem kw_632 : (Jvm.Cond.instanceMethod ⟨"MosaicCatalogue$Groups", "search", "(LMosaicCatalogue$Board;LMosaicCatalogue$Fragment;)J"⟩) ∈ js_ws := js_ws_of 632 (by decide +kernel) (by decide +kernel)
theorem kw_633 : (Jvm.Cond.selects "MosaicCatalogue$Groups" ⟨"MosaicCatalogue$Groups", "search", "(LMosaicCatalogue$Board;LMosaicCatalogue$Fragment;)J"⟩ ⟨"MosaicCatalogue$Groups", "search", "(LMosaicCatalogue$Board;LMosaicCatalogue$Fragment;)J"⟩) ∈ js_ws := js_ws_of 633 (by decide +kernel) (by decide +kernel)
theorem kw_635 : (Jvm.Cond.methodLink "MosaicCatalogue$Groups" 29 ⟨"MosaicCatalogue$Board", "neighbour", "(II)LMosaicCatalogue$Fragment;"⟩) ∈ js_ws := js_ws_of 635 (by decide +kernel) (by decide +kernel)
theorem kw_636 : (Jvm.Cond.methodLink "MosaicCatalogue$Groups" 35 ⟨"MosaicCatalogue$Board", "meets", "(LMosaicCatalogue$Fragment;IZ)Z"⟩) ∈ js_ws := js_ws_of 636 (by decide +kernel) (by decide +kernel)
theorem kw_638 : (Jvm.Cond.instanceMethod ⟨"MosaicCatalogue", "groupCountByUnions", "()I"⟩) ∈ js_ws := js_ws_of 638 (by decide +kernel) (by decide +kernel)
theorem kw_639 : (Jvm.Cond.selects "MosaicCatalogue" ⟨"MosaicCatalogue", "groupCountByUnions", "()I"⟩ ⟨"MosaicCatalogue", "groupCountByUnions", "()I"⟩) ∈ js_ws := js_ws_of 639 (by decide +kernel) (by decide +kernel)
theorem kw_641 : (Jvm.Cond.methodLink "MosaicCatalogue" 253 ⟨"MosaicCatalogue$Groups", "countByUnions", "(LMosaicCatalogue$Board;)I"⟩) ∈ js_ws := js_ws_of 641 (by decide +kernel) (by decide +kernel)
theorem kw_642 : (Jvm.Cond.instanceMethod ⟨"MosaicCatalogue$Groups", "countByUnions", "(LMosaicCatalogue$Board;)I"⟩) ∈ js_ws := js_ws_of 642 (by decide +kernel) (by decide +kernel)
theorem kw_643 : (Jvm.Cond.selects "MosaicCatalogue$Groups" ⟨"MosaicCatalogue$Groups", "countByUnions", "(LMosaicCatalogue$Board;)I"⟩ ⟨"MosaicCatalogue$Groups", "countByUnions", "(LMosaicCatalogue$Board;)I"⟩) ∈ js_ws := js_ws_of 643 (by decide +kernel) (by decide +kernel)
theorem kw_645 : (Jvm.Cond.methodLink "MosaicCatalogue$Groups" 65 ⟨"MosaicCatalogue$Board", "countOnGrid", "()I"⟩) ∈ js_ws := js_ws_of 645 (by decide +kernel) (by decide +kernel)
theorem kw_646 : (Jvm.Cond.methodLink "MosaicCatalogue$Groups" 69 ⟨"MosaicCatalogue$Groups", "unite", "(LMosaicCatalogue$Board;LMosaicCatalogue$Fragment;I)I"⟩) ∈ js_ws := js_ws_of 646 (by decide +kernel) (by decide +kernel)
theorem kw_648 : (Jvm.Cond.instanceMethod ⟨"MosaicCatalogue$Groups", "unite", "(LMosaicCatalogue$Board;LMosaicCatalogue$Fragment;I)I"⟩) ∈ js_ws := js_ws_of 648 (by decide +kernel) (by decide +kernel)
theorem kw_650 : (Jvm.Cond.methodLink "MosaicCatalogue$Groups" 73 ⟨"MosaicCatalogue$Groups", "rootOf", "(I)I"⟩) ∈ js_ws := js_ws_of 650 (by decide +kernel) (by decide +kernel)
theorem kw_652 : (Jvm.Cond.instanceMethod ⟨"MosaicCatalogue$Groups", "rootOf", "(I)I"⟩) ∈ js_ws := js_ws_of 652 (by decide +kernel) (by decide +kernel)
theorem kw_658 : (Jvm.Cond.methodLink "MosaicCatalogue" 281 ⟨"MosaicCatalogue", "gapMaskByShifts", "()J"⟩) ∈ js_ws := js_ws_of 658 (by decide +kernel) (by decide +kernel)
theorem kw_659 : (Jvm.Cond.methodLink "MosaicCatalogue" 284 ⟨"MosaicCatalogue", "groupCount", "()I"⟩) ∈ js_ws := js_ws_of 659 (by decide +kernel) (by decide +kernel)
theorem kw_660 : (Jvm.Cond.methodLink "MosaicCatalogue" 287 ⟨"MosaicCatalogue", "groupCountByUnions", "()I"⟩) ∈ js_ws := js_ws_of 660 (by decide +kernel) (by decide +kernel)
theorem kw_669 : (Jvm.Cond.methodLink "MosaicCatalogue" 340 ⟨"MosaicCatalogue$Board", "copyFrom", "(LMosaicCatalogue$Board;)V"⟩) ∈ js_ws := js_ws_of 669 (by decide +kernel) (by decide +kernel)
theorem kw_679 : (Jvm.Cond.methodLink "MosaicCatalogue" 62 ⟨"MosaicCatalogue$Board", "addToTray", "(CIIII)I"⟩) ∈ js_ws := js_ws_of 679 (by decide +kernel) (by decide +kernel)
theorem kw_680 : (Jvm.Cond.instanceMethod ⟨"MosaicCatalogue$Board", "addToTray", "(CIIII)I"⟩) ∈ js_ws := js_ws_of 680 (by decide +kernel) (by decide +kernel)
theorem kw_681 : (Jvm.Cond.selects "MosaicCatalogue$Board" ⟨"MosaicCatalogue$Board", "addToTray", "(CIIII)I"⟩ ⟨"MosaicCatalogue$Board", "addToTray", "(CIIII)I"⟩) ∈ js_ws := js_ws_of 681 (by decide +kernel) (by decide +kernel)
theorem kw_684 : (Jvm.Cond.static ⟨"MosaicCatalogue", "isColour", "(C)Z"⟩) ∈ js_ws := js_ws_of 684 (by decide +kernel) (by decide +kernel)
theorem kw_687 : (Jvm.Cond.static ⟨"MosaicCatalogue", "isUpTo", "(II)Z"⟩) ∈ js_ws := js_ws_of 687 (by decide +kernel) (by decide +kernel)
theorem kw_697 : (Jvm.Cond.methodLink "MosaicCatalogue" 70 ⟨"MosaicCatalogue$Board", "dropFromTray", "(I)I"⟩) ∈ js_ws := js_ws_of 697 (by decide +kernel) (by decide +kernel)
theorem kw_698 : (Jvm.Cond.instanceMethod ⟨"MosaicCatalogue$Board", "dropFromTray", "(I)I"⟩) ∈ js_ws := js_ws_of 698 (by decide +kernel) (by decide +kernel)
theorem kw_699 : (Jvm.Cond.selects "MosaicCatalogue$Board" ⟨"MosaicCatalogue$Board", "dropFromTray", "(I)I"⟩ ⟨"MosaicCatalogue$Board", "dropFromTray", "(I)I"⟩) ∈ js_ws := js_ws_of 699 (by decide +kernel) (by decide +kernel)
theorem kw_729 : (Jvm.Cond.methodLink "MosaicCatalogue" 80 ⟨"MosaicCatalogue$Board", "trayPiece", "(I)LMosaicCatalogue$Fragment;"⟩) ∈ js_ws := js_ws_of 729 (by decide +kernel) (by decide +kernel)
theorem kw_730 : (Jvm.Cond.instanceMethod ⟨"MosaicCatalogue$Board", "trayPiece", "(I)LMosaicCatalogue$Fragment;"⟩) ∈ js_ws := js_ws_of 730 (by decide +kernel) (by decide +kernel)
theorem kw_731 : (Jvm.Cond.selects "MosaicCatalogue$Board" ⟨"MosaicCatalogue$Board", "trayPiece", "(I)LMosaicCatalogue$Fragment;"⟩ ⟨"MosaicCatalogue$Board", "trayPiece", "(I)LMosaicCatalogue$Fragment;"⟩) ∈ js_ws := js_ws_of 731 (by decide +kernel) (by decide +kernel)
theorem kw_741 : (Jvm.Cond.methodLink "MosaicCatalogue" 99 ⟨"MosaicCatalogue", "pieceOf", "(I)LMosaicCatalogue$Fragment;"⟩) ∈ js_ws := js_ws_of 741 (by decide +kernel) (by decide +kernel)
theorem kw_743 : (Jvm.Cond.instanceMethod ⟨"MosaicCatalogue", "pieceOf", "(I)LMosaicCatalogue$Fragment;"⟩) ∈ js_ws := js_ws_of 743 (by decide +kernel) (by decide +kernel)
theorem kw_759 : (Jvm.Cond.methodLink "MosaicCatalogue" 109 ⟨"MosaicCatalogue", "checkSide", "(I)V"⟩) ∈ js_ws := js_ws_of 759 (by decide +kernel) (by decide +kernel)
theorem kw_760 : (Jvm.Cond.static ⟨"MosaicCatalogue", "checkSide", "(I)V"⟩) ∈ js_ws := js_ws_of 760 (by decide +kernel) (by decide +kernel)
theorem kw_762 : (Jvm.Cond.methodLink "MosaicCatalogue" 225 ⟨"MosaicCatalogue", "isUpTo", "(II)Z"⟩) ∈ js_ws := js_ws_of 762 (by decide +kernel) (by decide +kernel)
theorem kw_771 : (Jvm.Cond.methodLink "MosaicCatalogue" 116 ⟨"MosaicCatalogue$Fragment", "isOnGrid", "()Z"⟩) ∈ js_ws := js_ws_of 771 (by decide +kernel) (by decide +kernel)
theorem kw_779 : (Jvm.Cond.methodLink "MosaicCatalogue" 120 ⟨"MosaicCatalogue", "gridPieceOf", "(I)LMosaicCatalogue$Fragment;"⟩) ∈ js_ws := js_ws_of 779 (by decide +kernel) (by decide +kernel)
theorem kw_781 : (Jvm.Cond.instanceMethod ⟨"MosaicCatalogue", "gridPieceOf", "(I)LMosaicCatalogue$Fragment;"⟩) ∈ js_ws := js_ws_of 781 (by decide +kernel) (by decide +kernel)
theorem kw_791 : (Jvm.Cond.methodLink "MosaicCatalogue" 135 ⟨"MosaicCatalogue$Board", "putDown", "(III)I"⟩) ∈ js_ws := js_ws_of 791 (by decide +kernel) (by decide +kernel)
theorem kw_792 : (Jvm.Cond.instanceMethod ⟨"MosaicCatalogue$Board", "putDown", "(III)I"⟩) ∈ js_ws := js_ws_of 792 (by decide +kernel) (by decide +kernel)
theorem kw_793 : (Jvm.Cond.selects "MosaicCatalogue$Board" ⟨"MosaicCatalogue$Board", "putDown", "(III)I"⟩ ⟨"MosaicCatalogue$Board", "putDown", "(III)I"⟩) ∈ js_ws := js_ws_of 793 (by decide +kernel) (by decide +kernel)
theorem kw_795 : (Jvm.Cond.methodLink "MosaicCatalogue$Board" 65 ⟨"MosaicCatalogue$Board", "find", "(I)LMosaicCatalogue$Fragment;"⟩) ∈ js_ws := js_ws_of 795 (by decide +kernel) (by decide +kernel)
theorem kw_796 : (Jvm.Cond.methodLink "MosaicCatalogue$Board" 69 ⟨"MosaicCatalogue$Board", "lay", "(LMosaicCatalogue$Fragment;I)V"⟩) ∈ js_ws := js_ws_of 796 (by decide +kernel) (by decide +kernel)
theorem kw_797 : (Jvm.Cond.methodLink "MosaicCatalogue$Board" 73 ⟨"MosaicCatalogue$Board", "countMeetings", "(LMosaicCatalogue$Fragment;Z)I"⟩) ∈ js_ws := js_ws_of 797 (by decide +kernel) (by decide +kernel)
theorem kw_798 : (Jvm.Cond.instanceMethod ⟨"MosaicCatalogue$Board", "countMeetings", "(LMosaicCatalogue$Fragment;Z)I"⟩) ∈ js_ws := js_ws_of 798 (by decide +kernel) (by decide +kernel)
theorem kw_799 : (Jvm.Cond.selects "MosaicCatalogue$Board" ⟨"MosaicCatalogue$Board", "countMeetings", "(LMosaicCatalogue$Fragment;Z)I"⟩ ⟨"MosaicCatalogue$Board", "countMeetings", "(LMosaicCatalogue$Fragment;Z)I"⟩) ∈ js_ws := js_ws_of 799 (by decide +kernel) (by decide +kernel)
theorem kw_808 : (Jvm.Cond.methodLink "MosaicCatalogue" 139 ⟨"MosaicCatalogue$Board", "pickUp", "(I)I"⟩) ∈ js_ws := js_ws_of 808 (by decide +kernel) (by decide +kernel)
theorem kw_809 : (Jvm.Cond.instanceMethod ⟨"MosaicCatalogue$Board", "pickUp", "(I)I"⟩) ∈ js_ws := js_ws_of 809 (by decide +kernel) (by decide +kernel)
theorem kw_810 : (Jvm.Cond.selects "MosaicCatalogue$Board" ⟨"MosaicCatalogue$Board", "pickUp", "(I)I"⟩ ⟨"MosaicCatalogue$Board", "pickUp", "(I)I"⟩) ∈ js_ws := js_ws_of 810 (by decide +kernel) (by decide +kernel)
theorem kw_819 : (Jvm.Cond.methodLink "MosaicCatalogue" 142 ⟨"MosaicCatalogue$Board", "turnTo", "(II)I"⟩) ∈ js_ws := js_ws_of 819 (by decide +kernel) (by decide +kernel)
theorem kw_820 : (Jvm.Cond.instanceMethod ⟨"MosaicCatalogue$Board", "turnTo", "(II)I"⟩) ∈ js_ws := js_ws_of 820 (by decide +kernel) (by decide +kernel)
theorem kw_821 : (Jvm.Cond.selects "MosaicCatalogue$Board" ⟨"MosaicCatalogue$Board", "turnTo", "(II)I"⟩ ⟨"MosaicCatalogue$Board", "turnTo", "(II)I"⟩) ∈ js_ws := js_ws_of 821 (by decide +kernel) (by decide +kernel)
theorem kw_830 : (Jvm.Cond.methodLink "MosaicCatalogue" 146 ⟨"MosaicCatalogue$Board", "exchange", "(II)I"⟩) ∈ js_ws := js_ws_of 830 (by decide +kernel) (by decide +kernel)
theorem kw_831 : (Jvm.Cond.instanceMethod ⟨"MosaicCatalogue$Board", "exchange", "(II)I"⟩) ∈ js_ws := js_ws_of 831 (by decide +kernel) (by decide +kernel)
theorem kw_832 : (Jvm.Cond.selects "MosaicCatalogue$Board" ⟨"MosaicCatalogue$Board", "exchange", "(II)I"⟩ ⟨"MosaicCatalogue$Board", "exchange", "(II)I"⟩) ∈ js_ws := js_ws_of 832 (by decide +kernel) (by decide +kernel)
theorem kw_834 : (Jvm.Cond.methodLink "MosaicCatalogue$Board" 77 ⟨"MosaicCatalogue$Board", "countPairs", "(Z)I"⟩) ∈ js_ws := js_ws_of 834 (by decide +kernel) (by decide +kernel)
theorem kw_843 : (Jvm.Cond.methodLink "MosaicCatalogue" 149 ⟨"MosaicCatalogue", "gapOf", "(II)I"⟩) ∈ js_ws := js_ws_of 843 (by decide +kernel) (by decide +kernel)
theorem kw_845 : (Jvm.Cond.instanceMethod ⟨"MosaicCatalogue", "gapOf", "(II)I"⟩) ∈ js_ws := js_ws_of 845 (by decide +kernel) (by decide +kernel)
theorem kw_847 : (Jvm.Cond.methodLink "MosaicCatalogue" 167 ⟨"MosaicCatalogue", "cellOf", "(II)I"⟩) ∈ js_ws := js_ws_of 847 (by decide +kernel) (by decide +kernel)
theorem kw_848 : (Jvm.Cond.static ⟨"MosaicCatalogue", "cellOf", "(II)I"⟩) ∈ js_ws := js_ws_of 848 (by decide +kernel) (by decide +kernel)
theorem kw_850 : (Jvm.Cond.methodLink "MosaicCatalogue" 235 ⟨"MosaicCatalogue", "checkGap", "(I)V"⟩) ∈ js_ws := js_ws_of 850 (by decide +kernel) (by decide +kernel)
theorem kw_852 : (Jvm.Cond.instanceMethod ⟨"MosaicCatalogue", "checkGap", "(I)V"⟩) ∈ js_ws := js_ws_of 852 (by decide +kernel) (by decide +kernel)
theorem kw_854 : (Jvm.Cond.classLink "MosaicCatalogue" 343 "java/lang/UnsupportedOperationException") ∈ js_ws := js_ws_of 854 (by decide +kernel) (by decide +kernel)
theorem kw_870 : (Jvm.Cond.methodLink "MosaicCatalogue" 152 ⟨"MosaicCatalogue", "guessFor", "(II)LMosaicCatalogue$Fragment;"⟩) ∈ js_ws := js_ws_of 870 (by decide +kernel) (by decide +kernel)
theorem kw_872 : (Jvm.Cond.instanceMethod ⟨"MosaicCatalogue", "guessFor", "(II)LMosaicCatalogue$Fragment;"⟩) ∈ js_ws := js_ws_of 872 (by decide +kernel) (by decide +kernel)
theorem kw_874 : (Jvm.Cond.methodLink "MosaicCatalogue" 238 ⟨"MosaicCatalogue$Guesses", "lookAt", "(LMosaicCatalogue$Board;I)V"⟩) ∈ js_ws := js_ws_of 874 (by decide +kernel) (by decide +kernel)
theorem kw_875 : (Jvm.Cond.methodLink "MosaicCatalogue" 383 ⟨"MosaicCatalogue$Guesses", "pieceOfRank", "(LMosaicCatalogue$Board;I)LMosaicCatalogue$Fragment;"⟩) ∈ js_ws := js_ws_of 875 (by decide +kernel) (by decide +kernel)
theorem kw_877 : (Jvm.Cond.methodLink "MosaicCatalogue" 156 ⟨"MosaicCatalogue$Guesses", "putGuess", "(LMosaicCatalogue$Board;LMosaicCatalogue$Fragment;)V"⟩) ∈ js_ws := js_ws_of 877 (by decide +kernel) (by decide +kernel)
theorem kw_900 : (Jvm.Cond.methodLink "MosaicCatalogue" 179 ⟨"MosaicCatalogue", "isColour", "(C)Z"⟩) ∈ js_ws := js_ws_of 900 (by decide +kernel) (by decide +kernel)
theorem kw_909 : (Jvm.Cond.methodLink "MosaicCatalogue" 214 ⟨"MosaicCatalogue$Board", "meets", "(LMosaicCatalogue$Fragment;IZ)Z"⟩) ∈ js_ws := js_ws_of 909 (by decide +kernel) (by decide +kernel)
theorem kw_917 : (Jvm.Cond.methodLink "MosaicCatalogue" 218 ⟨"MosaicCatalogue$Board", "countMeetings", "(LMosaicCatalogue$Fragment;Z)I"⟩) ∈ js_ws := js_ws_of 917 (by decide +kernel) (by decide +kernel)
theorem kw_925 : (Jvm.Cond.methodLink "MosaicCatalogue" 222 ⟨"MosaicCatalogue$Board", "countNeighbours", "(I)I"⟩) ∈ js_ws := js_ws_of 925 (by decide +kernel) (by decide +kernel)
theorem kw_934 : (Jvm.Cond.methodLink "MosaicCatalogue" 231 ⟨"MosaicCatalogue", "checkInTray", "(LMosaicCatalogue$Fragment;)V"⟩) ∈ js_ws := js_ws_of 934 (by decide +kernel) (by decide +kernel)
theorem kw_935 : (Jvm.Cond.static ⟨"MosaicCatalogue", "checkInTray", "(LMosaicCatalogue$Fragment;)V"⟩) ∈ js_ws := js_ws_of 935 (by decide +kernel) (by decide +kernel)
theorem kw_938 : (Jvm.Cond.methodLink "MosaicCatalogue" 242 ⟨"MosaicCatalogue$Guesses", "weightOf", "(LMosaicCatalogue$Fragment;I)I"⟩) ∈ js_ws := js_ws_of 938 (by decide +kernel) (by decide +kernel)
theorem kw_946 : (Jvm.Cond.methodLink "MosaicCatalogue" 246 ⟨"MosaicCatalogue$Guesses", "turnFor", "(LMosaicCatalogue$Fragment;)I"⟩) ∈ js_ws := js_ws_of 946 (by decide +kernel) (by decide +kernel)
theorem kw_968 : (Jvm.Cond.methodLink "MosaicCatalogue" 256 ⟨"MosaicCatalogue", "groupMask", "(I)J"⟩) ∈ js_ws := js_ws_of 968 (by decide +kernel) (by decide +kernel)
theorem kw_969 : (Jvm.Cond.instanceMethod ⟨"MosaicCatalogue", "groupMask", "(I)J"⟩) ∈ js_ws := js_ws_of 969 (by decide +kernel) (by decide +kernel)
theorem kw_970 : (Jvm.Cond.selects "MosaicCatalogue" ⟨"MosaicCatalogue", "groupMask", "(I)J"⟩ ⟨"MosaicCatalogue", "groupMask", "(I)J"⟩) ∈ js_ws := js_ws_of 970 (by decide +kernel) (by decide +kernel)
theorem kw_972 : (Jvm.Cond.methodLink "MosaicCatalogue" 259 ⟨"MosaicCatalogue$Groups", "search", "(LMosaicCatalogue$Board;LMosaicCatalogue$Fragment;)J"⟩) ∈ js_ws := js_ws_of 972 (by decide +kernel) (by decide +kernel)
theorem kw_984 : (Jvm.Cond.methodLink "MosaicCatalogue" 263 ⟨"MosaicCatalogue$Groups", "sizeOfLargest", "(LMosaicCatalogue$Board;)I"⟩) ∈ js_ws := js_ws_of 984 (by decide +kernel) (by decide +kernel)
theorem kw_985 : (Jvm.Cond.instanceMethod ⟨"MosaicCatalogue$Groups", "sizeOfLargest", "(LMosaicCatalogue$Board;)I"⟩) ∈ js_ws := js_ws_of 985 (by decide +kernel) (by decide +kernel)
theorem kw_986 : (Jvm.Cond.selects "MosaicCatalogue$Groups" ⟨"MosaicCatalogue$Groups", "sizeOfLargest", "(LMosaicCatalogue$Board;)I"⟩ ⟨"MosaicCatalogue$Groups", "sizeOfLargest", "(LMosaicCatalogue$Board;)I"⟩) ∈ js_ws := js_ws_of 986 (by decide +kernel) (by decide +kernel)
theorem kw_988 : (Jvm.Cond.methodLink "MosaicCatalogue$Groups" 53 ⟨"java/lang/Long", "bitCount", "(J)I"⟩) ∈ js_ws := js_ws_of 988 (by decide +kernel) (by decide +kernel)
theorem kw_989 : (Jvm.Cond.methodLink "MosaicCatalogue$Groups" 59 ⟨"java/lang/Math", "max", "(II)I"⟩) ∈ js_ws := js_ws_of 989 (by decide +kernel) (by decide +kernel)
theorem kw_1009 : (Jvm.Cond.instanceMethod ⟨"MosaicCatalogue", "joinFraction", "()F"⟩) ∈ js_ws := js_ws_of 1009 (by decide +kernel) (by decide +kernel)
theorem kw_1010 : (Jvm.Cond.selects "MosaicCatalogue" ⟨"MosaicCatalogue", "joinFraction", "()F"⟩ ⟨"MosaicCatalogue", "joinFraction", "()F"⟩) ∈ js_ws := js_ws_of 1010 (by decide +kernel) (by decide +kernel)
theorem kw_1012 : (Jvm.Cond.classLink "MosaicCatalogue" 268 "java/lang/ArithmeticException") ∈ js_ws := js_ws_of 1012 (by decide +kernel) (by decide +kernel)
theorem kw_1022 : (Jvm.Cond.methodLink "MosaicCatalogue" 273 ⟨"MosaicCatalogue", "joinFraction", "()F"⟩) ∈ js_ws := js_ws_of 1022 (by decide +kernel) (by decide +kernel)
theorem kw_1023 : (Jvm.Cond.methodLink "MosaicCatalogue" 277 ⟨"MosaicCatalogue", "bitsOfFraction", "(F)I"⟩) ∈ js_ws := js_ws_of 1023 (by decide +kernel) (by decide +kernel)
theorem kw_1024 : (Jvm.Cond.static ⟨"MosaicCatalogue", "bitsOfFraction", "(F)I"⟩) ∈ js_ws := js_ws_of 1024 (by decide +kernel) (by decide +kernel)
theorem kw_1026 : (Jvm.Cond.constantFloat "MosaicCatalogue" 413 1258291200) ∈ js_ws := js_ws_of 1026 (by decide +kernel) (by decide +kernel)
theorem kw_1041 : (Jvm.Cond.methodLink "MosaicCatalogue" 290 ⟨"MosaicCatalogue", "signOf", "(I)C"⟩) ∈ js_ws := js_ws_of 1041 (by decide +kernel) (by decide +kernel)
theorem kw_1043 : (Jvm.Cond.instanceMethod ⟨"MosaicCatalogue", "signOf", "(I)C"⟩) ∈ js_ws := js_ws_of 1043 (by decide +kernel) (by decide +kernel)
theorem kw_1052 : (Jvm.Cond.methodLink "MosaicCatalogue" 297 ⟨"MosaicCatalogue", "hexadecimalDigit", "(I)C"⟩) ∈ js_ws := js_ws_of 1052 (by decide +kernel) (by decide +kernel)
theorem kw_1053 : (Jvm.Cond.static ⟨"MosaicCatalogue", "hexadecimalDigit", "(I)C"⟩) ∈ js_ws := js_ws_of 1053 (by decide +kernel) (by decide +kernel)
theorem kw_1070 : (Jvm.Cond.methodLink "MosaicCatalogue" 302 ⟨"MosaicCatalogue$Script", "isFull", "()Z"⟩) ∈ js_ws := js_ws_of 1070 (by decide +kernel) (by decide +kernel)
theorem kw_1071 : (Jvm.Cond.instanceMethod ⟨"MosaicCatalogue$Script", "isFull", "()Z"⟩) ∈ js_ws := js_ws_of 1071 (by decide +kernel) (by decide +kernel)
theorem kw_1072 : (Jvm.Cond.selects "MosaicCatalogue$Script" ⟨"MosaicCatalogue$Script", "isFull", "()Z"⟩ ⟨"MosaicCatalogue$Script", "isFull", "()Z"⟩) ∈ js_ws := js_ws_of 1072 (by decide +kernel) (by decide +kernel)
theorem kw_1075 : (Jvm.Cond.methodLink "MosaicCatalogue" 310 ⟨"MosaicCatalogue$Script", "append", "(C)I"⟩) ∈ js_ws := js_ws_of 1075 (by decide +kernel) (by decide +kernel)
theorem kw_1076 : (Jvm.Cond.instanceMethod ⟨"MosaicCatalogue$Script", "append", "(C)I"⟩) ∈ js_ws := js_ws_of 1076 (by decide +kernel) (by decide +kernel)
theorem kw_1077 : (Jvm.Cond.selects "MosaicCatalogue$Script" ⟨"MosaicCatalogue$Script", "append", "(C)I"⟩ ⟨"MosaicCatalogue$Script", "append", "(C)I"⟩) ∈ js_ws := js_ws_of 1077 (by decide +kernel) (by decide +kernel)
theorem kw_1086 : (Jvm.Cond.methodLink "MosaicCatalogue" 314 ⟨"MosaicCatalogue$Script", "readAll", "()Z"⟩) ∈ js_ws := js_ws_of 1086 (by decide +kernel) (by decide +kernel)
theorem kw_1087 : (Jvm.Cond.instanceMethod ⟨"MosaicCatalogue$Script", "readAll", "()Z"⟩) ∈ js_ws := js_ws_of 1087 (by decide +kernel) (by decide +kernel)
theorem kw_1088 : (Jvm.Cond.selects "MosaicCatalogue$Script" ⟨"MosaicCatalogue$Script", "readAll", "()Z"⟩ ⟨"MosaicCatalogue$Script", "readAll", "()Z"⟩) ∈ js_ws := js_ws_of 1088 (by decide +kernel) (by decide +kernel)
theorem kw_1090 : (Jvm.Cond.methodLink "MosaicCatalogue$Script" 29 ⟨"MosaicCatalogue$Script", "readCommand", "(LMosaicCatalogue$Command;)Z"⟩) ∈ js_ws := js_ws_of 1090 (by decide +kernel) (by decide +kernel)
theorem kw_1092 : (Jvm.Cond.instanceMethod ⟨"MosaicCatalogue$Script", "readCommand", "(LMosaicCatalogue$Command;)Z"⟩) ∈ js_ws := js_ws_of 1092 (by decide +kernel) (by decide +kernel)
theorem kw_1094 : (Jvm.Cond.methodLink "MosaicCatalogue$Script" 40 ⟨"MosaicCatalogue$Script", "readKeyword", "()LMosaicCatalogue$Keyword;"⟩) ∈ js_ws := js_ws_of 1094 (by decide +kernel) (by decide +kernel)
theorem kw_1096 : (Jvm.Cond.instanceMethod ⟨"MosaicCatalogue$Script", "readKeyword", "()LMosaicCatalogue$Keyword;"⟩) ∈ js_ws := js_ws_of 1096 (by decide +kernel) (by decide +kernel)
theorem kw_1100 : (Jvm.Cond.methodLink "MosaicCatalogue$Script" 77 ⟨"MosaicCatalogue$Script", "commonLength", "(Ljava/lang/String;)I"⟩) ∈ js_ws := js_ws_of 1100 (by decide +kernel) (by decide +kernel)
theorem kw_1102 : (Jvm.Cond.instanceMethod ⟨"MosaicCatalogue$Script", "commonLength", "(Ljava/lang/String;)I"⟩) ∈ js_ws := js_ws_of 1102 (by decide +kernel) (by decide +kernel)
theorem kw_1104 : (Jvm.Cond.methodLink "MosaicCatalogue$Script" 54 ⟨"java/lang/String", "length", "()I"⟩) ∈ js_ws := js_ws_of 1104 (by decide +kernel) (by decide +kernel)
theorem kw_1105 : (Jvm.Cond.instanceMethod ⟨"java/lang/String", "length", "()I"⟩) ∈ js_ws := js_ws_of 1105 (by decide +kernel) (by decide +kernel)
theorem kw_1106 : (Jvm.Cond.selects "java/lang/String" ⟨"java/lang/String", "length", "()I"⟩ ⟨"java/lang/String", "length", "()I"⟩) ∈ js_ws := js_ws_of 1106 (by decide +kernel) (by decide +kernel)
theorem kw_1108 : (Jvm.Cond.methodLink "java/lang/String" 335 ⟨"java/lang/String", "coder", "()B"⟩) ∈ js_ws := js_ws_of 1108 (by decide +kernel) (by decide +kernel)
theorem kw_1109 : (Jvm.Cond.instanceMethod ⟨"java/lang/String", "coder", "()B"⟩) ∈ js_ws := js_ws_of 1109 (by decide +kernel) (by decide +kernel)
theorem kw_1110 : (Jvm.Cond.selects "java/lang/String" ⟨"java/lang/String", "coder", "()B"⟩ ⟨"java/lang/String", "coder", "()B"⟩) ∈ js_ws := js_ws_of 1110 (by decide +kernel) (by decide +kernel)
theorem kw_1112 : (Jvm.Cond.fieldLink "java/lang/String" 38 "java/lang/String" "COMPACT_STRINGS" "Z") ∈ js_ws := js_ws_of 1112 (by decide +kernel) (by decide +kernel)
theorem kw_1114 : (Jvm.Cond.methodLink "MosaicCatalogue$Script" 59 ⟨"java/lang/String", "charAt", "(I)C"⟩) ∈ js_ws := js_ws_of 1114 (by decide +kernel) (by decide +kernel)
theorem kw_1115 : (Jvm.Cond.instanceMethod ⟨"java/lang/String", "charAt", "(I)C"⟩) ∈ js_ws := js_ws_of 1115 (by decide +kernel) (by decide +kernel)
theorem kw_1116 : (Jvm.Cond.selects "java/lang/String" ⟨"java/lang/String", "charAt", "(I)C"⟩ ⟨"java/lang/String", "charAt", "(I)C"⟩) ∈ js_ws := js_ws_of 1116 (by decide +kernel) (by decide +kernel)
theorem kw_1118 : (Jvm.Cond.methodLink "java/lang/String" 492 ⟨"java/lang/String", "isLatin1", "()Z"⟩) ∈ js_ws := js_ws_of 1118 (by decide +kernel) (by decide +kernel)
theorem kw_1119 : (Jvm.Cond.instanceMethod ⟨"java/lang/String", "isLatin1", "()Z"⟩) ∈ js_ws := js_ws_of 1119 (by decide +kernel) (by decide +kernel)
theorem kw_1120 : (Jvm.Cond.selects "java/lang/String" ⟨"java/lang/String", "isLatin1", "()Z"⟩ ⟨"java/lang/String", "isLatin1", "()Z"⟩) ∈ js_ws := js_ws_of 1120 (by decide +kernel) (by decide +kernel)
theorem kw_1122 : (Jvm.Cond.methodLink "java/lang/String" 495 ⟨"java/lang/StringLatin1", "charAt", "([BI)C"⟩) ∈ js_ws := js_ws_of 1122 (by decide +kernel) (by decide +kernel)
theorem kw_1123 : (Jvm.Cond.static ⟨"java/lang/StringLatin1", "charAt", "([BI)C"⟩) ∈ js_ws := js_ws_of 1123 (by decide +kernel) (by decide +kernel)
theorem kw_1125 : (Jvm.Cond.methodLink "java/lang/StringLatin1" 9 ⟨"java/lang/String", "checkIndex", "(II)V"⟩) ∈ js_ws := js_ws_of 1125 (by decide +kernel) (by decide +kernel)
theorem kw_1126 : (Jvm.Cond.static ⟨"java/lang/String", "checkIndex", "(II)V"⟩) ∈ js_ws := js_ws_of 1126 (by decide +kernel) (by decide +kernel)
theorem kw_1128 : (Jvm.Cond.fieldLink "java/lang/String" 1053 "jdk/internal/util/Preconditions" "SIOOBE_FORMATTER" "Ljava/util/function/BiFunction;") ∈ js_ws := js_ws_of 1128 (by decide +kernel) (by decide +kernel)
theorem kw_1130 : (Jvm.Cond.methodLink "java/lang/String" 1059 ⟨"jdk/internal/util/Preconditions", "checkIndex", "(IILjava/util/function/BiFunction;)I"⟩) ∈ js_ws := js_ws_of 1130 (by decide +kernel) (by decide +kernel)
theorem kw_1131 : (Jvm.Cond.static ⟨"jdk/internal/util/Preconditions", "checkIndex", "(IILjava/util/function/BiFunction;)I"⟩) ∈ js_ws := js_ws_of 1131 (by decide +kernel) (by decide +kernel)
theorem kw_1152 : (Jvm.Cond.methodLink "MosaicCatalogue$Script" 81 ⟨"java/lang/Math", "max", "(II)I"⟩) ∈ js_ws := js_ws_of 1152 (by decide +kernel) (by decide +kernel)
theorem kw_1153 : (Jvm.Cond.methodLink "MosaicCatalogue$Script" 63 ⟨"MosaicCatalogue$Script", "readNumber", "()I"⟩) ∈ js_ws := js_ws_of 1153 (by decide +kernel) (by decide +kernel)
theorem kw_1155 : (Jvm.Cond.instanceMethod ⟨"MosaicCatalogue$Script", "readNumber", "()I"⟩) ∈ js_ws := js_ws_of 1155 (by decide +kernel) (by decide +kernel)
theorem kw_1157 : (Jvm.Cond.methodLink "MosaicCatalogue$Script" 36 ⟨"MosaicCatalogue$Script", "readSign", "(C)I"⟩) ∈ js_ws := js_ws_of 1157 (by decide +kernel) (by decide +kernel)
theorem kw_1159 : (Jvm.Cond.instanceMethod ⟨"MosaicCatalogue$Script", "readSign", "(C)I"⟩) ∈ js_ws := js_ws_of 1159 (by decide +kernel) (by decide +kernel)
theorem kw_1161 : (Jvm.Cond.methodLink "MosaicCatalogue$Script" 87 ⟨"MosaicCatalogue$Script", "valueOfSign", "(CC)I"⟩) ∈ js_ws := js_ws_of 1161 (by decide +kernel) (by decide +kernel)
theorem kw_1162 : (Jvm.Cond.static ⟨"MosaicCatalogue$Script", "valueOfSign", "(CC)I"⟩) ∈ js_ws := js_ws_of 1162 (by decide +kernel) (by decide +kernel)
theorem kw_1166 : (Jvm.Cond.static ⟨"MosaicCatalogue", "digitValue", "(C)I"⟩) ∈ js_ws := js_ws_of 1166 (by decide +kernel) (by decide +kernel)
theorem kw_1168 : (Jvm.Cond.methodLink "MosaicCatalogue" 317 ⟨"MosaicCatalogue$Script", "clear", "()V"⟩) ∈ js_ws := js_ws_of 1168 (by decide +kernel) (by decide +kernel)
theorem kw_1169 : (Jvm.Cond.instanceMethod ⟨"MosaicCatalogue$Script", "clear", "()V"⟩) ∈ js_ws := js_ws_of 1169 (by decide +kernel) (by decide +kernel)
theorem kw_1170 : (Jvm.Cond.selects "MosaicCatalogue$Script" ⟨"MosaicCatalogue$Script", "clear", "()V"⟩ ⟨"MosaicCatalogue$Script", "clear", "()V"⟩) ∈ js_ws := js_ws_of 1170 (by decide +kernel) (by decide +kernel)
theorem kw_1173 : (Jvm.Cond.methodLink "MosaicCatalogue" 332 ⟨"MosaicCatalogue", "perform", "(LMosaicCatalogue$Command;)I"⟩) ∈ js_ws := js_ws_of 1173 (by decide +kernel) (by decide +kernel)
theorem kw_1175 : (Jvm.Cond.instanceMethod ⟨"MosaicCatalogue", "perform", "(LMosaicCatalogue$Command;)I"⟩) ∈ js_ws := js_ws_of 1175 (by decide +kernel) (by decide +kernel)
theorem kw_1177 : (Jvm.Cond.fieldLink "MosaicCatalogue" 399 "MosaicCatalogue$1" "$SwitchMap$MosaicCatalogue$Keyword" "[I") ∈ js_ws := js_ws_of 1177 (by decide +kernel) (by decide +kernel)
theorem kw_1179 : (Jvm.Cond.methodLink "MosaicCatalogue" 408 ⟨"MosaicCatalogue$Keyword", "ordinal", "()I"⟩) ∈ js_ws := js_ws_of 1179 (by decide +kernel) (by decide +kernel)
theorem kw_1180 : (Jvm.Cond.sameMethod "MosaicCatalogue$Keyword" "java/lang/Enum" "ordinal" "()I") ∈ js_ws := js_ws_of 1180 (by decide +kernel) (by decide +kernel)
theorem kw_1182 : (Jvm.Cond.selects "MosaicCatalogue$Keyword" ⟨"MosaicCatalogue$Keyword", "ordinal", "()I"⟩ ⟨"java/lang/Enum", "ordinal", "()I"⟩) ∈ js_ws := js_ws_of 1182 (by decide +kernel) (by decide +kernel)
theorem kw_1183 : (Jvm.Cond.instanceMethod ⟨"java/lang/Enum", "ordinal", "()I"⟩) ∈ js_ws := js_ws_of 1183 (by decide +kernel) (by decide +kernel)
theorem kw_1185 : (Jvm.Cond.methodLink "MosaicCatalogue" 336 ⟨"MosaicCatalogue$History", "prepared", "()LMosaicCatalogue$Board;"⟩) ∈ js_ws := js_ws_of 1185 (by decide +kernel) (by decide +kernel)
theorem kw_1211 : (Jvm.Cond.methodLink "MosaicCatalogue" 355 ⟨"MosaicCatalogue$History", "takeLatest", "()LMosaicCatalogue$Board;"⟩) ∈ js_ws := js_ws_of 1211 (by decide +kernel) (by decide +kernel)
theorem kw_1212 : (Jvm.Cond.instanceMethod ⟨"MosaicCatalogue$History", "takeLatest", "()LMosaicCatalogue$Board;"⟩) ∈ js_ws := js_ws_of 1212 (by decide +kernel) (by decide +kernel)
theorem kw_1213 : (Jvm.Cond.selects "MosaicCatalogue$History" ⟨"MosaicCatalogue$History", "takeLatest", "()LMosaicCatalogue$Board;"⟩ ⟨"MosaicCatalogue$History", "takeLatest", "()LMosaicCatalogue$Board;"⟩) ∈ js_ws := js_ws_of 1213 (by decide +kernel) (by decide +kernel)
theorem kw_1223 : (Jvm.Cond.methodLink "MosaicCatalogue" 364 ⟨"MosaicCatalogue$History", "clear", "()V"⟩) ∈ js_ws := js_ws_of 1223 (by decide +kernel) (by decide +kernel)
theorem kw_1224 : (Jvm.Cond.instanceMethod ⟨"MosaicCatalogue$History", "clear", "()V"⟩) ∈ js_ws := js_ws_of 1224 (by decide +kernel) (by decide +kernel)
theorem kw_1225 : (Jvm.Cond.selects "MosaicCatalogue$History" ⟨"MosaicCatalogue$History", "clear", "()V"⟩ ⟨"MosaicCatalogue$History", "clear", "()V"⟩) ∈ js_ws := js_ws_of 1225 (by decide +kernel) (by decide +kernel)
theorem kw_1232 : (Jvm.Cond.methodLink "MosaicCatalogueModel" 3 ⟨"java/lang/Object", "<init>", "()V"⟩) ∈ js_ws := js_ws_of 1232 (by decide +kernel) (by decide +kernel)
theorem kw_1233 : (Jvm.Cond.fieldLink "MosaicCatalogueModel" 9 "MosaicCatalogueModel" "s" "[I") ∈ js_ws := js_ws_of 1233 (by decide +kernel) (by decide +kernel)
theorem kw_1234 : (Jvm.Cond.fieldLink "MosaicCatalogueModel" 13 "MosaicCatalogueModel" "before" "[I") ∈ js_ws := js_ws_of 1234 (by decide +kernel) (by decide +kernel)
theorem kw_1235 : (Jvm.Cond.fieldLink "MosaicCatalogueModel" 16 "MosaicCatalogueModel" "saved" "[I") ∈ js_ws := js_ws_of 1235 (by decide +kernel) (by decide +kernel)
theorem kw_1236 : (Jvm.Cond.fieldLink "MosaicCatalogueModel" 289 "MosaicCatalogueModel" "isSaved" "Z") ∈ js_ws := js_ws_of 1236 (by decide +kernel) (by decide +kernel)
theorem kw_1237 : (Jvm.Cond.fieldLink "MosaicCatalogueModel" 19 "MosaicCatalogueModel" "past" "[I") ∈ js_ws := js_ws_of 1237 (by decide +kernel) (by decide +kernel)
theorem kw_1238 : (Jvm.Cond.fieldLink "MosaicCatalogueModel" 48 "MosaicCatalogueModel" "pastMany" "I") ∈ js_ws := js_ws_of 1238 (by decide +kernel) (by decide +kernel)
theorem kw_1239 : (Jvm.Cond.fieldLink "MosaicCatalogueModel" 39 "MosaicCatalogueModel" "thrown" "I") ∈ js_ws := js_ws_of 1239 (by decide +kernel) (by decide +kernel)
theorem kw_1240 : (Jvm.Cond.fieldLink "MosaicCatalogueModel" 22 "MosaicCatalogueModel" "output" "[C") ∈ js_ws := js_ws_of 1240 (by decide +kernel) (by decide +kernel)
theorem kw_1241 : (Jvm.Cond.fieldLink "MosaicCatalogueModel" 219 "MosaicCatalogueModel" "outputMany" "I") ∈ js_ws := js_ws_of 1241 (by decide +kernel) (by decide +kernel)
theorem kw_1242 : (Jvm.Cond.fieldLink "MosaicCatalogueModel" 26 "MosaicCatalogueModel" "input" "[C") ∈ js_ws := js_ws_of 1242 (by decide +kernel) (by decide +kernel)
theorem kw_1243 : (Jvm.Cond.fieldLink "MosaicCatalogueModel" 226 "MosaicCatalogueModel" "length" "I") ∈ js_ws := js_ws_of 1243 (by decide +kernel) (by decide +kernel)
theorem kw_1244 : (Jvm.Cond.fieldLink "MosaicCatalogueModel" 229 "MosaicCatalogueModel" "at" "I") ∈ js_ws := js_ws_of 1244 (by decide +kernel) (by decide +kernel)
theorem kw_1245 : (Jvm.Cond.fieldLink "MosaicCatalogueModel" 236 "MosaicCatalogueModel" "isWrong" "Z") ∈ js_ws := js_ws_of 1245 (by decide +kernel) (by decide +kernel)
theorem kw_1246 : (Jvm.Cond.fieldLink "MosaicCatalogueModel" 29 "MosaicCatalogueModel" "errorAt" "I") ∈ js_ws := js_ws_of 1246 (by decide +kernel) (by decide +kernel)
theorem kw_1247 : (Jvm.Cond.fieldLink "MosaicCatalogueModel" 33 "MosaicCatalogueModel" "failedAt" "I") ∈ js_ws := js_ws_of 1247 (by decide +kernel) (by decide +kernel)
theorem kw_1248 : (Jvm.Cond.fieldLink "MosaicCatalogueModel" 36 "MosaicCatalogueModel" "commands" "[I") ∈ js_ws := js_ws_of 1248 (by decide +kernel) (by decide +kernel)
theorem kw_1249 : (Jvm.Cond.fieldLink "MosaicCatalogueModel" 253 "MosaicCatalogueModel" "commandMany" "I") ∈ js_ws := js_ws_of 1249 (by decide +kernel) (by decide +kernel)
theorem kw_1293 : (Jvm.Cond.methodLink "MosaicCatalogueModel" 113 ⟨"MosaicCatalogueModel", "keep", "()V"⟩) ∈ js_ws := js_ws_of 1293 (by decide +kernel) (by decide +kernel)
theorem kw_1295 : (Jvm.Cond.instanceMethod ⟨"MosaicCatalogueModel", "keep", "()V"⟩) ∈ js_ws := js_ws_of 1295 (by decide +kernel) (by decide +kernel)
theorem kw_1297 : (Jvm.Cond.methodLink "MosaicCatalogueModel" 42 ⟨"java/lang/System", "arraycopy", "(Ljava/lang/Object;ILjava/lang/Object;II)V"⟩) ∈ js_ws := js_ws_of 1297 (by decide +kernel) (by decide +kernel)
theorem kw_1298 : (Jvm.Cond.methodLink "MosaicCatalogueModel" 116 ⟨"MosaicCatalogueModel", "doAddFragment", "(CIIII)I"⟩) ∈ js_ws := js_ws_of 1298 (by decide +kernel) (by decide +kernel)
theorem kw_1300 : (Jvm.Cond.instanceMethod ⟨"MosaicCatalogueModel", "doAddFragment", "(CIIII)I"⟩) ∈ js_ws := js_ws_of 1300 (by decide +kernel) (by decide +kernel)
theorem kw_1302 : (Jvm.Cond.methodLink "MosaicCatalogueModel" 69 ⟨"MosaicCatalogueModel", "in", "(III)Z"⟩) ∈ js_ws := js_ws_of 1302 (by decide +kernel) (by decide +kernel)
theorem kw_1303 : (Jvm.Cond.static ⟨"MosaicCatalogueModel", "in", "(III)Z"⟩) ∈ js_ws := js_ws_of 1303 (by decide +kernel) (by decide +kernel)
theorem kw_1305 : (Jvm.Cond.methodLink "MosaicCatalogueModel" 99 ⟨"MosaicCatalogueModel", "isColour", "(I)Z"⟩) ∈ js_ws := js_ws_of 1305 (by decide +kernel) (by decide +kernel)
theorem kw_1306 : (Jvm.Cond.static ⟨"MosaicCatalogueModel", "isColour", "(I)Z"⟩) ∈ js_ws := js_ws_of 1306 (by decide +kernel) (by decide +kernel)
theorem kw_1308 : (Jvm.Cond.methodLink "MosaicCatalogueModel" 102 ⟨"MosaicCatalogueModel", "fails", "(I)I"⟩) ∈ js_ws := js_ws_of 1308 (by decide +kernel) (by decide +kernel)
theorem kw_1310 : (Jvm.Cond.instanceMethod ⟨"MosaicCatalogueModel", "fails", "(I)I"⟩) ∈ js_ws := js_ws_of 1310 (by decide +kernel) (by decide +kernel)
theorem kw_1312 : (Jvm.Cond.methodLink "MosaicCatalogueModel" 105 ⟨"MosaicCatalogueModel", "many", "(Z)I"⟩) ∈ js_ws := js_ws_of 1312 (by decide +kernel) (by decide +kernel)
theorem kw_1314 : (Jvm.Cond.instanceMethod ⟨"MosaicCatalogueModel", "many", "(Z)I"⟩) ∈ js_ws := js_ws_of 1314 (by decide +kernel) (by decide +kernel)
theorem kw_1316 : (Jvm.Cond.methodLink "MosaicCatalogueModel" 66 ⟨"MosaicCatalogueModel", "isLoose", "(I)Z"⟩) ∈ js_ws := js_ws_of 1316 (by decide +kernel) (by decide +kernel)
theorem kw_1318 : (Jvm.Cond.instanceMethod ⟨"MosaicCatalogueModel", "isLoose", "(I)Z"⟩) ∈ js_ws := js_ws_of 1318 (by decide +kernel) (by decide +kernel)
theorem kw_1320 : (Jvm.Cond.methodLink "MosaicCatalogueModel" 63 ⟨"MosaicCatalogueModel", "isUsed", "(I)Z"⟩) ∈ js_ws := js_ws_of 1320 (by decide +kernel) (by decide +kernel)
theorem kw_1322 : (Jvm.Cond.instanceMethod ⟨"MosaicCatalogueModel", "isUsed", "(I)Z"⟩) ∈ js_ws := js_ws_of 1322 (by decide +kernel) (by decide +kernel)
theorem kw_1324 : (Jvm.Cond.methodLink "MosaicCatalogueModel" 51 ⟨"MosaicCatalogueModel", "of", "(II)I"⟩) ∈ js_ws := js_ws_of 1324 (by decide +kernel) (by decide +kernel)
theorem kw_1326 : (Jvm.Cond.instanceMethod ⟨"MosaicCatalogueModel", "of", "(II)I"⟩) ∈ js_ws := js_ws_of 1326 (by decide +kernel) (by decide +kernel)
theorem kw_1328 : (Jvm.Cond.methodLink "MosaicCatalogueModel" 59 ⟨"MosaicCatalogueModel", "isOnGrid", "(I)Z"⟩) ∈ js_ws := js_ws_of 1328 (by decide +kernel) (by decide +kernel)
theorem kw_1330 : (Jvm.Cond.instanceMethod ⟨"MosaicCatalogueModel", "isOnGrid", "(I)Z"⟩) ∈ js_ws := js_ws_of 1330 (by decide +kernel) (by decide +kernel)
theorem kw_1332 : (Jvm.Cond.methodLink "MosaicCatalogueModel" 109 ⟨"MosaicCatalogueModel", "sets", "(III)V"⟩) ∈ js_ws := js_ws_of 1332 (by decide +kernel) (by decide +kernel)
theorem kw_1334 : (Jvm.Cond.instanceMethod ⟨"MosaicCatalogueModel", "sets", "(III)V"⟩) ∈ js_ws := js_ws_of 1334 (by decide +kernel) (by decide +kernel)
theorem kw_1336 : (Jvm.Cond.methodLink "MosaicCatalogueModel" 120 ⟨"MosaicCatalogueModel", "ends", "(I)I"⟩) ∈ js_ws := js_ws_of 1336 (by decide +kernel) (by decide +kernel)
theorem kw_1338 : (Jvm.Cond.instanceMethod ⟨"MosaicCatalogueModel", "ends", "(I)I"⟩) ∈ js_ws := js_ws_of 1338 (by decide +kernel) (by decide +kernel)
theorem kw_1344 : (Jvm.Cond.methodLink "MosaicCatalogueModel" 123 ⟨"MosaicCatalogueModel", "doRemoveFragment", "(I)I"⟩) ∈ js_ws := js_ws_of 1344 (by decide +kernel) (by decide +kernel)
theorem kw_1346 : (Jvm.Cond.instanceMethod ⟨"MosaicCatalogueModel", "doRemoveFragment", "(I)I"⟩) ∈ js_ws := js_ws_of 1346 (by decide +kernel) (by decide +kernel)
theorem kw_1348 : (Jvm.Cond.methodLink "MosaicCatalogueModel" 55 ⟨"MosaicCatalogueModel", "slotOf", "(I)I"⟩) ∈ js_ws := js_ws_of 1348 (by decide +kernel) (by decide +kernel)
theorem kw_1350 : (Jvm.Cond.instanceMethod ⟨"MosaicCatalogueModel", "slotOf", "(I)I"⟩) ∈ js_ws := js_ws_of 1350 (by decide +kernel) (by decide +kernel)
theorem kw_1364 : (Jvm.Cond.methodLink "MosaicCatalogueModel" 126 ⟨"MosaicCatalogueModel", "isThere", "(Z)Z"⟩) ∈ js_ws := js_ws_of 1364 (by decide +kernel) (by decide +kernel)
theorem kw_1366 : (Jvm.Cond.instanceMethod ⟨"MosaicCatalogueModel", "isThere", "(Z)Z"⟩) ∈ js_ws := js_ws_of 1366 (by decide +kernel) (by decide +kernel)
theorem kw_1368 : (Jvm.Cond.methodLink "MosaicCatalogueModel" 130 ⟨"MosaicCatalogueModel", "idOf", "(I)I"⟩) ∈ js_ws := js_ws_of 1368 (by decide +kernel) (by decide +kernel)
theorem kw_1370 : (Jvm.Cond.instanceMethod ⟨"MosaicCatalogueModel", "idOf", "(I)I"⟩) ∈ js_ws := js_ws_of 1370 (by decide +kernel) (by decide +kernel)
theorem kw_1388 : (Jvm.Cond.methodLink "MosaicCatalogueModel" 83 ⟨"MosaicCatalogueModel", "pattern", "(III)I"⟩) ∈ js_ws := js_ws_of 1388 (by decide +kernel) (by decide +kernel)
theorem kw_1390 : (Jvm.Cond.instanceMethod ⟨"MosaicCatalogueModel", "pattern", "(III)I"⟩) ∈ js_ws := js_ws_of 1390 (by decide +kernel) (by decide +kernel)
theorem kw_1400 : (Jvm.Cond.methodLink "MosaicCatalogueModel" 133 ⟨"MosaicCatalogueModel", "placed", "(I)I"⟩) ∈ js_ws := js_ws_of 1400 (by decide +kernel) (by decide +kernel)
theorem kw_1402 : (Jvm.Cond.instanceMethod ⟨"MosaicCatalogueModel", "placed", "(I)I"⟩) ∈ js_ws := js_ws_of 1402 (by decide +kernel) (by decide +kernel)
theorem kw_1412 : (Jvm.Cond.methodLink "MosaicCatalogueModel" 140 ⟨"MosaicCatalogueModel", "doPlace", "(III)I"⟩) ∈ js_ws := js_ws_of 1412 (by decide +kernel) (by decide +kernel)
theorem kw_1414 : (Jvm.Cond.instanceMethod ⟨"MosaicCatalogueModel", "doPlace", "(III)I"⟩) ∈ js_ws := js_ws_of 1414 (by decide +kernel) (by decide +kernel)
theorem kw_1416 : (Jvm.Cond.methodLink "MosaicCatalogueModel" 73 ⟨"MosaicCatalogueModel", "isCell", "(II)Z"⟩) ∈ js_ws := js_ws_of 1416 (by decide +kernel) (by decide +kernel)
theorem kw_1417 : (Jvm.Cond.static ⟨"MosaicCatalogueModel", "isCell", "(II)Z"⟩) ∈ js_ws := js_ws_of 1417 (by decide +kernel) (by decide +kernel)
theorem kw_1419 : (Jvm.Cond.methodLink "MosaicCatalogueModel" 136 ⟨"MosaicCatalogueModel", "lays", "(II)V"⟩) ∈ js_ws := js_ws_of 1419 (by decide +kernel) (by decide +kernel)
theorem kw_1421 : (Jvm.Cond.instanceMethod ⟨"MosaicCatalogueModel", "lays", "(II)V"⟩) ∈ js_ws := js_ws_of 1421 (by decide +kernel) (by decide +kernel)
theorem kw_1423 : (Jvm.Cond.methodLink "MosaicCatalogueModel" 93 ⟨"MosaicCatalogueModel", "contacts", "(II)I"⟩) ∈ js_ws := js_ws_of 1423 (by decide +kernel) (by decide +kernel)
theorem kw_1425 : (Jvm.Cond.instanceMethod ⟨"MosaicCatalogueModel", "contacts", "(II)I"⟩) ∈ js_ws := js_ws_of 1425 (by decide +kernel) (by decide +kernel)
theorem kw_1427 : (Jvm.Cond.methodLink "MosaicCatalogueModel" 90 ⟨"MosaicCatalogueModel", "contact", "(II)I"⟩) ∈ js_ws := js_ws_of 1427 (by decide +kernel) (by decide +kernel)
theorem kw_1429 : (Jvm.Cond.instanceMethod ⟨"MosaicCatalogueModel", "contact", "(II)I"⟩) ∈ js_ws := js_ws_of 1429 (by decide +kernel) (by decide +kernel)
theorem kw_1431 : (Jvm.Cond.methodLink "MosaicCatalogueModel" 80 ⟨"MosaicCatalogueModel", "slotBeside", "(II)I"⟩) ∈ js_ws := js_ws_of 1431 (by decide +kernel) (by decide +kernel)
theorem kw_1433 : (Jvm.Cond.instanceMethod ⟨"MosaicCatalogueModel", "slotBeside", "(II)I"⟩) ∈ js_ws := js_ws_of 1433 (by decide +kernel) (by decide +kernel)
theorem kw_1435 : (Jvm.Cond.methodLink "MosaicCatalogueModel" 77 ⟨"MosaicCatalogueModel", "beside", "(II)I"⟩) ∈ js_ws := js_ws_of 1435 (by decide +kernel) (by decide +kernel)
theorem kw_1436 : (Jvm.Cond.static ⟨"MosaicCatalogueModel", "beside", "(II)I"⟩) ∈ js_ws := js_ws_of 1436 (by decide +kernel) (by decide +kernel)
theorem kw_1438 : (Jvm.Cond.methodLink "MosaicCatalogueModel" 87 ⟨"MosaicCatalogueModel", "meeting", "(II)I"⟩) ∈ js_ws := js_ws_of 1438 (by decide +kernel) (by decide +kernel)
theorem kw_1440 : (Jvm.Cond.instanceMethod ⟨"MosaicCatalogueModel", "meeting", "(II)I"⟩) ∈ js_ws := js_ws_of 1440 (by decide +kernel) (by decide +kernel)
theorem kw_1446 : (Jvm.Cond.methodLink "MosaicCatalogueModel" 143 ⟨"MosaicCatalogueModel", "doTakeBack", "(I)I"⟩) ∈ js_ws := js_ws_of 1446 (by decide +kernel) (by decide +kernel)
theorem kw_1448 : (Jvm.Cond.instanceMethod ⟨"MosaicCatalogueModel", "doTakeBack", "(I)I"⟩) ∈ js_ws := js_ws_of 1448 (by decide +kernel) (by decide +kernel)
theorem kw_1454 : (Jvm.Cond.methodLink "MosaicCatalogueModel" 146 ⟨"MosaicCatalogueModel", "doSetTurn", "(II)I"⟩) ∈ js_ws := js_ws_of 1454 (by decide +kernel) (by decide +kernel)
theorem kw_1456 : (Jvm.Cond.instanceMethod ⟨"MosaicCatalogueModel", "doSetTurn", "(II)I"⟩) ∈ js_ws := js_ws_of 1456 (by decide +kernel) (by decide +kernel)
theorem kw_1462 : (Jvm.Cond.methodLink "MosaicCatalogueModel" 152 ⟨"MosaicCatalogueModel", "doSwap", "(II)I"⟩) ∈ js_ws := js_ws_of 1462 (by decide +kernel) (by decide +kernel)
theorem kw_1464 : (Jvm.Cond.instanceMethod ⟨"MosaicCatalogueModel", "doSwap", "(II)I"⟩) ∈ js_ws := js_ws_of 1464 (by decide +kernel) (by decide +kernel)
theorem kw_1466 : (Jvm.Cond.methodLink "MosaicCatalogueModel" 149 ⟨"MosaicCatalogueModel", "pairs", "(I)I"⟩) ∈ js_ws := js_ws_of 1466 (by decide +kernel) (by decide +kernel)
theorem kw_1468 : (Jvm.Cond.instanceMethod ⟨"MosaicCatalogueModel", "pairs", "(I)I"⟩) ∈ js_ws := js_ws_of 1468 (by decide +kernel) (by decide +kernel)
theorem kw_1474 : (Jvm.Cond.methodLink "MosaicCatalogueModel" 179 ⟨"MosaicCatalogueModel", "doPlaceGuess", "(II)I"⟩) ∈ js_ws := js_ws_of 1474 (by decide +kernel) (by decide +kernel)
theorem kw_1476 : (Jvm.Cond.instanceMethod ⟨"MosaicCatalogueModel", "doPlaceGuess", "(II)I"⟩) ∈ js_ws := js_ws_of 1476 (by decide +kernel) (by decide +kernel)
theorem kw_1478 : (Jvm.Cond.methodLink "MosaicCatalogueModel" 170 ⟨"MosaicCatalogueModel", "notGap", "(II)I"⟩) ∈ js_ws := js_ws_of 1478 (by decide +kernel) (by decide +kernel)
theorem kw_1480 : (Jvm.Cond.instanceMethod ⟨"MosaicCatalogueModel", "notGap", "(II)I"⟩) ∈ js_ws := js_ws_of 1480 (by decide +kernel) (by decide +kernel)
theorem kw_1482 : (Jvm.Cond.methodLink "MosaicCatalogueModel" 167 ⟨"MosaicCatalogueModel", "isGap", "(I)Z"⟩) ∈ js_ws := js_ws_of 1482 (by decide +kernel) (by decide +kernel)
theorem kw_1484 : (Jvm.Cond.instanceMethod ⟨"MosaicCatalogueModel", "isGap", "(I)Z"⟩) ∈ js_ws := js_ws_of 1484 (by decide +kernel) (by decide +kernel)
theorem kw_1486 : (Jvm.Cond.methodLink "MosaicCatalogueModel" 96 ⟨"MosaicCatalogueModel", "outline", "(I)I"⟩) ∈ js_ws := js_ws_of 1486 (by decide +kernel) (by decide +kernel)
theorem kw_1488 : (Jvm.Cond.instanceMethod ⟨"MosaicCatalogueModel", "outline", "(I)I"⟩) ∈ js_ws := js_ws_of 1488 (by decide +kernel) (by decide +kernel)
theorem kw_1490 : (Jvm.Cond.methodLink "MosaicCatalogueModel" 173 ⟨"MosaicCatalogueModel", "guess", "(I)I"⟩) ∈ js_ws := js_ws_of 1490 (by decide +kernel) (by decide +kernel)
theorem kw_1492 : (Jvm.Cond.instanceMethod ⟨"MosaicCatalogueModel", "guess", "(I)I"⟩) ∈ js_ws := js_ws_of 1492 (by decide +kernel) (by decide +kernel)
theorem kw_1494 : (Jvm.Cond.methodLink "MosaicCatalogueModel" 164 ⟨"MosaicCatalogueModel", "isBetter", "(III)Z"⟩) ∈ js_ws := js_ws_of 1494 (by decide +kernel) (by decide +kernel)
theorem kw_1496 : (Jvm.Cond.instanceMethod ⟨"MosaicCatalogueModel", "isBetter", "(III)Z"⟩) ∈ js_ws := js_ws_of 1496 (by decide +kernel) (by decide +kernel)
theorem kw_1498 : (Jvm.Cond.methodLink "MosaicCatalogueModel" 161 ⟨"MosaicCatalogueModel", "bestPoints", "(II)I"⟩) ∈ js_ws := js_ws_of 1498 (by decide +kernel) (by decide +kernel)
theorem kw_1500 : (Jvm.Cond.instanceMethod ⟨"MosaicCatalogueModel", "bestPoints", "(II)I"⟩) ∈ js_ws := js_ws_of 1500 (by decide +kernel) (by decide +kernel)
theorem kw_1502 : (Jvm.Cond.methodLink "MosaicCatalogueModel" 158 ⟨"MosaicCatalogueModel", "turnFor", "(II)I"⟩) ∈ js_ws := js_ws_of 1502 (by decide +kernel) (by decide +kernel)
theorem kw_1504 : (Jvm.Cond.instanceMethod ⟨"MosaicCatalogueModel", "turnFor", "(II)I"⟩) ∈ js_ws := js_ws_of 1504 (by decide +kernel) (by decide +kernel)
theorem kw_1506 : (Jvm.Cond.methodLink "MosaicCatalogueModel" 155 ⟨"MosaicCatalogueModel", "points", "(III)I"⟩) ∈ js_ws := js_ws_of 1506 (by decide +kernel) (by decide +kernel)
theorem kw_1508 : (Jvm.Cond.instanceMethod ⟨"MosaicCatalogueModel", "points", "(III)I"⟩) ∈ js_ws := js_ws_of 1508 (by decide +kernel) (by decide +kernel)
theorem kw_1510 : (Jvm.Cond.methodLink "MosaicCatalogueModel" 176 ⟨"MosaicCatalogueModel", "laysGuess", "(II)V"⟩) ∈ js_ws := js_ws_of 1510 (by decide +kernel) (by decide +kernel)
theorem kw_1512 : (Jvm.Cond.instanceMethod ⟨"MosaicCatalogueModel", "laysGuess", "(II)V"⟩) ∈ js_ws := js_ws_of 1512 (by decide +kernel) (by decide +kernel)
theorem kw_1518 : (Jvm.Cond.methodLink "MosaicCatalogueModel" 191 ⟨"MosaicCatalogueModel", "doFill", "()I"⟩) ∈ js_ws := js_ws_of 1518 (by decide +kernel) (by decide +kernel)
theorem kw_1520 : (Jvm.Cond.instanceMethod ⟨"MosaicCatalogueModel", "doFill", "()I"⟩) ∈ js_ws := js_ws_of 1520 (by decide +kernel) (by decide +kernel)
theorem kw_1522 : (Jvm.Cond.methodLink "MosaicCatalogueModel" 182 ⟨"MosaicCatalogueModel", "bestGap", "()I"⟩) ∈ js_ws := js_ws_of 1522 (by decide +kernel) (by decide +kernel)
theorem kw_1524 : (Jvm.Cond.instanceMethod ⟨"MosaicCatalogueModel", "bestGap", "()I"⟩) ∈ js_ws := js_ws_of 1524 (by decide +kernel) (by decide +kernel)
theorem kw_1526 : (Jvm.Cond.methodLink "MosaicCatalogueModel" 186 ⟨"java/lang/Math", "max", "(II)I"⟩) ∈ js_ws := js_ws_of 1526 (by decide +kernel) (by decide +kernel)
theorem kw_1560 : (Jvm.Cond.instanceMethod ⟨"MosaicCatalogueModel", "gapMask", "()J"⟩) ∈ js_ws := js_ws_of 1560 (by decide +kernel) (by decide +kernel)
theorem kw_1561 : (Jvm.Cond.selects "MosaicCatalogueModel" ⟨"MosaicCatalogueModel", "gapMask", "()J"⟩ ⟨"MosaicCatalogueModel", "gapMask", "()J"⟩) ∈ js_ws := js_ws_of 1561 (by decide +kernel) (by decide +kernel)
theorem kw_1567 : (Jvm.Cond.methodLink "MosaicCatalogueModel" 194 ⟨"MosaicCatalogueModel", "gapMask", "()J"⟩) ∈ js_ws := js_ws_of 1567 (by decide +kernel) (by decide +kernel)
theorem kw_1593 : (Jvm.Cond.instanceMethod ⟨"MosaicCatalogueModel", "groupCount", "()I"⟩) ∈ js_ws := js_ws_of 1593 (by decide +kernel) (by decide +kernel)
theorem kw_1594 : (Jvm.Cond.selects "MosaicCatalogueModel" ⟨"MosaicCatalogueModel", "groupCount", "()I"⟩ ⟨"MosaicCatalogueModel", "groupCount", "()I"⟩) ∈ js_ws := js_ws_of 1594 (by decide +kernel) (by decide +kernel)
theorem kw_1596 : (Jvm.Cond.methodLink "MosaicCatalogueModel" 198 ⟨"MosaicCatalogueModel", "group", "(I)J"⟩) ∈ js_ws := js_ws_of 1596 (by decide +kernel) (by decide +kernel)
theorem kw_1598 : (Jvm.Cond.instanceMethod ⟨"MosaicCatalogueModel", "group", "(I)J"⟩) ∈ js_ws := js_ws_of 1598 (by decide +kernel) (by decide +kernel)
theorem kw_1604 : (Jvm.Cond.methodLink "MosaicCatalogueModel" 202 ⟨"MosaicCatalogueModel", "groupCount", "()I"⟩) ∈ js_ws := js_ws_of 1604 (by decide +kernel) (by decide +kernel)
theorem kw_1609 : (Jvm.Cond.methodLink "MosaicCatalogueModel" 205 ⟨"MosaicCatalogueModel", "bits", "(J)I"⟩) ∈ js_ws := js_ws_of 1609 (by decide +kernel) (by decide +kernel)
theorem kw_1610 : (Jvm.Cond.static ⟨"MosaicCatalogueModel", "bits", "(J)I"⟩) ∈ js_ws := js_ws_of 1610 (by decide +kernel) (by decide +kernel)
theorem kw_1621 : (Jvm.Cond.instanceMethod ⟨"MosaicCatalogueModel", "joinFraction", "()F"⟩) ∈ js_ws := js_ws_of 1621 (by decide +kernel) (by decide +kernel)
theorem kw_1622 : (Jvm.Cond.selects "MosaicCatalogueModel" ⟨"MosaicCatalogueModel", "joinFraction", "()F"⟩ ⟨"MosaicCatalogueModel", "joinFraction", "()F"⟩) ∈ js_ws := js_ws_of 1622 (by decide +kernel) (by decide +kernel)
theorem kw_1628 : (Jvm.Cond.methodLink "MosaicCatalogueModel" 209 ⟨"MosaicCatalogueModel", "joinFraction", "()F"⟩) ∈ js_ws := js_ws_of 1628 (by decide +kernel) (by decide +kernel)
theorem kw_1629 : (Jvm.Cond.methodLink "MosaicCatalogueModel" 213 ⟨"java/lang/Float", "floatToIntBits", "(F)I"⟩) ∈ js_ws := js_ws_of 1629 (by decide +kernel) (by decide +kernel)
theorem kw_1630 : (Jvm.Cond.static ⟨"java/lang/Float", "floatToIntBits", "(F)I"⟩) ∈ js_ws := js_ws_of 1630 (by decide +kernel) (by decide +kernel)
theorem kw_1632 : (Jvm.Cond.methodLink "java/lang/Float" 59 ⟨"java/lang/Float", "isNaN", "(F)Z"⟩) ∈ js_ws := js_ws_of 1632 (by decide +kernel) (by decide +kernel)
theorem kw_1633 : (Jvm.Cond.static ⟨"java/lang/Float", "isNaN", "(F)Z"⟩) ∈ js_ws := js_ws_of 1633 (by decide +kernel) (by decide +kernel)
theorem kw_1635 : (Jvm.Cond.methodLink "java/lang/Float" 74 ⟨"java/lang/Float", "floatToRawIntBits", "(F)I"⟩) ∈ js_ws := js_ws_of 1635 (by decide +kernel) (by decide +kernel)
theorem kw_1636 : (Jvm.Cond.static ⟨"java/lang/Float", "floatToRawIntBits", "(F)I"⟩) ∈ js_ws := js_ws_of 1636 (by decide +kernel) (by decide +kernel)
theorem kw_1637 : (Jvm.Cond.native ⟨"java/lang/Float", "floatToRawIntBits", "(F)I"⟩) ∈ js_ws := js_ws_of 1637 (by decide +kernel) (by decide +kernel)
theorem kw_1638 : (Jvm.Cond.constant "java/lang/Float" 77 2143289344) ∈ js_ws := js_ws_of 1638 (by decide +kernel) (by decide +kernel)
theorem kw_1651 : (Jvm.Cond.methodLink "MosaicCatalogueModel" 222 ⟨"MosaicCatalogueModel", "says", "(I)V"⟩) ∈ js_ws := js_ws_of 1651 (by decide +kernel) (by decide +kernel)
theorem kw_1653 : (Jvm.Cond.instanceMethod ⟨"MosaicCatalogueModel", "says", "(I)V"⟩) ∈ js_ws := js_ws_of 1653 (by decide +kernel) (by decide +kernel)
theorem kw_1671 : (Jvm.Cond.methodLink "MosaicCatalogueModel" 283 ⟨"MosaicCatalogueModel", "readCommand", "()V"⟩) ∈ js_ws := js_ws_of 1671 (by decide +kernel) (by decide +kernel)
theorem kw_1673 : (Jvm.Cond.instanceMethod ⟨"MosaicCatalogueModel", "readCommand", "()V"⟩) ∈ js_ws := js_ws_of 1673 (by decide +kernel) (by decide +kernel)
theorem kw_1675 : (Jvm.Cond.methodLink "MosaicCatalogueModel" 240 ⟨"MosaicCatalogueModel", "behind", "(I)I"⟩) ∈ js_ws := js_ws_of 1675 (by decide +kernel) (by decide +kernel)
theorem kw_1677 : (Jvm.Cond.instanceMethod ⟨"MosaicCatalogueModel", "behind", "(I)I"⟩) ∈ js_ws := js_ws_of 1677 (by decide +kernel) (by decide +kernel)
theorem kw_1680 : (Jvm.Cond.methodLink "MosaicCatalogueModel" 258 ⟨"MosaicCatalogueModel", "skip", "(Ljava/lang/String;)V"⟩) ∈ js_ws := js_ws_of 1680 (by decide +kernel) (by decide +kernel)
theorem kw_1682 : (Jvm.Cond.instanceMethod ⟨"MosaicCatalogueModel", "skip", "(Ljava/lang/String;)V"⟩) ∈ js_ws := js_ws_of 1682 (by decide +kernel) (by decide +kernel)
theorem kw_1684 : (Jvm.Cond.methodLink "MosaicCatalogueModel" 232 ⟨"java/lang/String", "length", "()I"⟩) ∈ js_ws := js_ws_of 1684 (by decide +kernel) (by decide +kernel)
theorem kw_1685 : (Jvm.Cond.methodLink "MosaicCatalogueModel" 243 ⟨"java/lang/String", "charAt", "(I)C"⟩) ∈ js_ws := js_ws_of 1685 (by decide +kernel) (by decide +kernel)
theorem kw_1686 : (Jvm.Cond.methodLink "MosaicCatalogueModel" 250 ⟨"MosaicCatalogueModel", "readDigit", "(I)I"⟩) ∈ js_ws := js_ws_of 1686 (by decide +kernel) (by decide +kernel)
theorem kw_1688 : (Jvm.Cond.instanceMethod ⟨"MosaicCatalogueModel", "readDigit", "(I)I"⟩) ∈ js_ws := js_ws_of 1688 (by decide +kernel) (by decide +kernel)
theorem kw_1690 : (Jvm.Cond.methodLink "MosaicCatalogueModel" 247 ⟨"MosaicCatalogueModel", "hexOf", "(I)I"⟩) ∈ js_ws := js_ws_of 1690 (by decide +kernel) (by decide +kernel)
theorem kw_1691 : (Jvm.Cond.static ⟨"MosaicCatalogueModel", "hexOf", "(I)I"⟩) ∈ js_ws := js_ws_of 1691 (by decide +kernel) (by decide +kernel)
theorem kw_1694 : (Jvm.Cond.methodLink "MosaicCatalogueModel" 264 ⟨"MosaicCatalogueModel", "readNumber", "()I"⟩) ∈ js_ws := js_ws_of 1694 (by decide +kernel) (by decide +kernel)
theorem kw_1696 : (Jvm.Cond.instanceMethod ⟨"MosaicCatalogueModel", "readNumber", "()I"⟩) ∈ js_ws := js_ws_of 1696 (by decide +kernel) (by decide +kernel)
theorem kw_1706 : (Jvm.Cond.methodLink "MosaicCatalogueModel" 286 ⟨"MosaicCatalogueModel", "does", "(I)V"⟩) ∈ js_ws := js_ws_of 1706 (by decide +kernel) (by decide +kernel)
theorem kw_1708 : (Jvm.Cond.instanceMethod ⟨"MosaicCatalogueModel", "does", "(I)V"⟩) ∈ js_ws := js_ws_of 1708 (by decide +kernel) (by decide +kernel)
theorem kw_1758 : (Jvm.Cond.fieldLink "java/lang/String" 9 "java/lang/String" "value" "[B") ∈ js_ws := js_ws_of 1758 (by decide +kernel) (by decide +kernel)
theorem kw_1759 : (Jvm.Cond.fieldLink "java/lang/String" 15 "java/lang/String" "coder" "B") ∈ js_ws := js_ws_of 1759 (by decide +kernel) (by decide +kernel)
theorem kw_1761 : (Jvm.Cond.fieldLink "java/lang/Enum" 7 "java/lang/Enum" "ordinal" "I") ∈ js_ws := js_ws_of 1761 (by decide +kernel) (by decide +kernel)
theorem kn_115 : (Jvm.Cond.arrayOver (FieldType.object "MosaicCatalogue$Fragment")) ∈ lw_tbl := List.mem_of_getElem? (i := 115) (by decide +kernel)
theorem kn_117 : (Jvm.Cond.methodLinkNest "MosaicCatalogue$Board" 20 ⟨"MosaicCatalogue$Fragment", "<init>", "()V"⟩ "MosaicCatalogue") ∈ lw_tbl := List.mem_of_getElem? (i := 117) (by decide +kernel)
theorem kn_121 : (Jvm.Cond.fieldLinkNest "MosaicCatalogue$Board" 39 "MosaicCatalogue$Fragment" "id" "I" "MosaicCatalogue") ∈ lw_tbl := List.mem_of_getElem? (i := 121) (by decide +kernel)
theorem kn_123 : (Jvm.Cond.fieldLinkNest "MosaicCatalogue" 91 "MosaicCatalogue$Fragment" "id" "I" "MosaicCatalogue") ∈ lw_tbl := List.mem_of_getElem? (i := 123) (by decide +kernel)
theorem kn_124 : (Jvm.Cond.fieldLinkNest "MosaicCatalogue$Guesses" 41 "MosaicCatalogue$Fragment" "colour" "C" "MosaicCatalogue") ∈ lw_tbl := List.mem_of_getElem? (i := 124) (by decide +kernel)
theorem kn_126 : (Jvm.Cond.fieldLinkNest "MosaicCatalogue$Board" 54 "MosaicCatalogue$Fragment" "colour" "C" "MosaicCatalogue") ∈ lw_tbl := List.mem_of_getElem? (i := 126) (by decide +kernel)
theorem kn_127 : (Jvm.Cond.fieldLinkNest "MosaicCatalogue" 102 "MosaicCatalogue$Fragment" "colour" "C" "MosaicCatalogue") ∈ lw_tbl := List.mem_of_getElem? (i := 127) (by decide +kernel)
theorem kn_129 : (Jvm.Cond.fieldLinkNest "MosaicCatalogue$Guesses" 45 "MosaicCatalogue$Fragment" "edges" "[I" "MosaicCatalogue") ∈ lw_tbl := List.mem_of_getElem? (i := 129) (by decide +kernel)
theorem kn_130 : (Jvm.Cond.fieldLinkNest "MosaicCatalogue$Board" 58 "MosaicCatalogue$Fragment" "edges" "[I" "MosaicCatalogue") ∈ lw_tbl := List.mem_of_getElem? (i := 130) (by decide +kernel)
theorem kn_132 : (Jvm.Cond.fieldLinkNest "MosaicCatalogue$Board" 62 "MosaicCatalogue$Fragment" "turn" "I" "MosaicCatalogue") ∈ lw_tbl := List.mem_of_getElem? (i := 132) (by decide +kernel)
theorem kn_133 : (Jvm.Cond.fieldLinkNest "MosaicCatalogue$Guesses" 80 "MosaicCatalogue$Fragment" "turn" "I" "MosaicCatalogue") ∈ lw_tbl := List.mem_of_getElem? (i := 133) (by decide +kernel)
theorem kn_134 : (Jvm.Cond.fieldLinkNest "MosaicCatalogue" 106 "MosaicCatalogue$Fragment" "turn" "I" "MosaicCatalogue") ∈ lw_tbl := List.mem_of_getElem? (i := 134) (by decide +kernel)
theorem kn_136 : (Jvm.Cond.fieldLinkNest "MosaicCatalogue$Groups" 21 "MosaicCatalogue$Fragment" "cell" "I" "MosaicCatalogue") ∈ lw_tbl := List.mem_of_getElem? (i := 136) (by decide +kernel)
theorem kn_137 : (Jvm.Cond.fieldLinkNest "MosaicCatalogue$Board" 36 "MosaicCatalogue$Fragment" "cell" "I" "MosaicCatalogue") ∈ lw_tbl := List.mem_of_getElem? (i := 137) (by decide +kernel)
theorem kn_138 : (Jvm.Cond.fieldLinkNest "MosaicCatalogue" 123 "MosaicCatalogue$Fragment" "cell" "I" "MosaicCatalogue") ∈ lw_tbl := List.mem_of_getElem? (i := 138) (by decide +kernel)
theorem kn_152 : (Jvm.Cond.fieldLinkNest "MosaicCatalogue$Groups" 42 "MosaicCatalogue$Board" "fragments" "[LMosaicCatalogue$Fragment;" "MosaicCatalogue") ∈ lw_tbl := List.mem_of_getElem? (i := 152) (by decide +kernel)
theorem kn_153 : (Jvm.Cond.fieldLinkNest "MosaicCatalogue$Guesses" 61 "MosaicCatalogue$Board" "fragments" "[LMosaicCatalogue$Fragment;" "MosaicCatalogue") ∈ lw_tbl := List.mem_of_getElem? (i := 153) (by decide +kernel)
theorem kn_154 : (Jvm.Cond.fieldLinkNest "MosaicCatalogue" 126 "MosaicCatalogue$Board" "fragments" "[LMosaicCatalogue$Fragment;" "MosaicCatalogue") ∈ lw_tbl := List.mem_of_getElem? (i := 154) (by decide +kernel)
theorem kn_156 : (Jvm.Cond.fieldLinkNest "MosaicCatalogue" 164 "MosaicCatalogue$Board" "grid" "[LMosaicCatalogue$Fragment;" "MosaicCatalogue") ∈ lw_tbl := List.mem_of_getElem? (i := 156) (by decide +kernel)
theorem kn_158 : (Jvm.Cond.fieldLinkNest "MosaicCatalogue$Groups" 39 "MosaicCatalogue$Board" "count" "I" "MosaicCatalogue") ∈ lw_tbl := List.mem_of_getElem? (i := 158) (by decide +kernel)
theorem kn_159 : (Jvm.Cond.fieldLinkNest "MosaicCatalogue" 73 "MosaicCatalogue$Board" "count" "I" "MosaicCatalogue") ∈ lw_tbl := List.mem_of_getElem? (i := 159) (by decide +kernel)
theorem kn_160 : (Jvm.Cond.fieldLinkNest "MosaicCatalogue$Guesses" 58 "MosaicCatalogue$Board" "count" "I" "MosaicCatalogue") ∈ lw_tbl := List.mem_of_getElem? (i := 160) (by decide +kernel)
theorem kn_178 : (Jvm.Cond.arrayOver (FieldType.object "MosaicCatalogue$Board")) ∈ lw_tbl := List.mem_of_getElem? (i := 178) (by decide +kernel)
theorem kn_183 : (Jvm.Cond.fieldLinkNest "MosaicCatalogue" 352 "MosaicCatalogue$History" "count" "I" "MosaicCatalogue") ∈ lw_tbl := List.mem_of_getElem? (i := 183) (by decide +kernel)
theorem kn_193 : (Jvm.Cond.methodLinkNest "MosaicCatalogue" 28 ⟨"MosaicCatalogue$Guesses", "<init>", "()V"⟩ "MosaicCatalogue") ∈ lw_tbl := List.mem_of_getElem? (i := 193) (by decide +kernel)
theorem kn_213 : (Jvm.Cond.methodLinkNest "MosaicCatalogue" 35 ⟨"MosaicCatalogue$Groups", "<init>", "()V"⟩ "MosaicCatalogue") ∈ lw_tbl := List.mem_of_getElem? (i := 213) (by decide +kernel)
theorem kn_232 : (Jvm.Cond.arrayOver (FieldType.object "MosaicCatalogue$Command")) ∈ lw_tbl := List.mem_of_getElem? (i := 232) (by decide +kernel)
theorem kn_234 : (Jvm.Cond.methodLinkNest "MosaicCatalogue$Script" 21 ⟨"MosaicCatalogue$Command", "<init>", "()V"⟩ "MosaicCatalogue") ∈ lw_tbl := List.mem_of_getElem? (i := 234) (by decide +kernel)
theorem kn_241 : (Jvm.Cond.fieldLinkNest "MosaicCatalogue$Script" 44 "MosaicCatalogue$Command" "keyword" "LMosaicCatalogue$Keyword;" "MosaicCatalogue") ∈ lw_tbl := List.mem_of_getElem? (i := 241) (by decide +kernel)
theorem kn_242 : (Jvm.Cond.fieldLinkNest "MosaicCatalogue" 404 "MosaicCatalogue$Command" "keyword" "LMosaicCatalogue$Keyword;" "MosaicCatalogue") ∈ lw_tbl := List.mem_of_getElem? (i := 242) (by decide +kernel)
theorem kn_244 : (Jvm.Cond.fieldLinkNest "MosaicCatalogue$Script" 66 "MosaicCatalogue$Command" "values" "[I" "MosaicCatalogue") ∈ lw_tbl := List.mem_of_getElem? (i := 244) (by decide +kernel)
theorem kn_245 : (Jvm.Cond.fieldLinkNest "MosaicCatalogue" 393 "MosaicCatalogue$Command" "values" "[I" "MosaicCatalogue") ∈ lw_tbl := List.mem_of_getElem? (i := 245) (by decide +kernel)
theorem kn_254 : (Jvm.Cond.fieldLinkNest "MosaicCatalogue" 320 "MosaicCatalogue$Script" "position" "I" "MosaicCatalogue") ∈ lw_tbl := List.mem_of_getElem? (i := 254) (by decide +kernel)
theorem kn_256 : (Jvm.Cond.fieldLinkNest "MosaicCatalogue" 328 "MosaicCatalogue$Script" "commands" "[LMosaicCatalogue$Command;" "MosaicCatalogue") ∈ lw_tbl := List.mem_of_getElem? (i := 256) (by decide +kernel)
theorem kn_258 : (Jvm.Cond.fieldLinkNest "MosaicCatalogue" 325 "MosaicCatalogue$Script" "commandCount" "I" "MosaicCatalogue") ∈ lw_tbl := List.mem_of_getElem? (i := 258) (by decide +kernel)
theorem kn_389 : (Jvm.Cond.fieldLinkNest "MosaicCatalogue$Board" 81 "MosaicCatalogue" "ROW_STEPS" "[I" "MosaicCatalogue") ∈ lw_tbl := List.mem_of_getElem? (i := 389) (by decide +kernel)
theorem kn_391 : (Jvm.Cond.fieldLinkNest "MosaicCatalogue$Board" 84 "MosaicCatalogue" "COLUMN_STEPS" "[I" "MosaicCatalogue") ∈ lw_tbl := List.mem_of_getElem? (i := 391) (by decide +kernel)
theorem kn_398 : (Jvm.Cond.methodLinkNest "MosaicCatalogue$Guesses" 32 ⟨"MosaicCatalogue", "opposite", "(I)I"⟩ "MosaicCatalogue") ∈ lw_tbl := List.mem_of_getElem? (i := 398) (by decide +kernel)
theorem kn_616 : (Jvm.Cond.methodLinkNest "MosaicCatalogue$Board" 97 ⟨"MosaicCatalogue", "opposite", "(I)I"⟩ "MosaicCatalogue") ∈ lw_tbl := List.mem_of_getElem? (i := 616) (by decide +kernel)
theorem kn_630 : (Jvm.Cond.methodLinkNest "MosaicCatalogue$Groups" 25 ⟨"MosaicCatalogue", "bit", "(I)J"⟩ "MosaicCatalogue") ∈ lw_tbl := List.mem_of_getElem? (i := 630) (by decide +kernel)
theorem kn_683 : (Jvm.Cond.methodLinkNest "MosaicCatalogue$Board" 46 ⟨"MosaicCatalogue", "isColour", "(C)Z"⟩ "MosaicCatalogue") ∈ lw_tbl := List.mem_of_getElem? (i := 683) (by decide +kernel)
theorem kn_686 : (Jvm.Cond.methodLinkNest "MosaicCatalogue$Board" 50 ⟨"MosaicCatalogue", "isUpTo", "(II)Z"⟩ "MosaicCatalogue") ∈ lw_tbl := List.mem_of_getElem? (i := 686) (by decide +kernel)
theorem kn_1098 : (Jvm.Cond.fieldLinkNest "MosaicCatalogue$Script" 70 "MosaicCatalogue" "KEYWORDS" "[LMosaicCatalogue$Keyword;" "MosaicCatalogue") ∈ lw_tbl := List.mem_of_getElem? (i := 1098) (by decide +kernel)
theorem kn_1164 : (Jvm.Cond.methodLinkNest "MosaicCatalogue$Script" 91 ⟨"MosaicCatalogue", "isColour", "(C)Z"⟩ "MosaicCatalogue") ∈ lw_tbl := List.mem_of_getElem? (i := 1164) (by decide +kernel)
theorem kn_1165 : (Jvm.Cond.methodLinkNest "MosaicCatalogue$Script" 95 ⟨"MosaicCatalogue", "digitValue", "(C)I"⟩ "MosaicCatalogue") ∈ lw_tbl := List.mem_of_getElem? (i := 1165) (by decide +kernel)
theorem kn_1757 : (Jvm.Cond.fieldLinkNest "MosaicCatalogue$Script" 74 "MosaicCatalogue$Keyword" "word" "Ljava/lang/String;" "MosaicCatalogue") ∈ lw_tbl := List.mem_of_getElem? (i := 1757) (by decide +kernel)
theorem kn_1760 : (Jvm.Cond.fieldLinkNest "MosaicCatalogue$Script" 48 "MosaicCatalogue$Keyword" "form" "Ljava/lang/String;" "MosaicCatalogue") ∈ lw_tbl := List.mem_of_getElem? (i := 1760) (by decide +kernel)
theorem ks_12 : Jvm.Cond.selects "MosaicCatalogue" ⟨"MosaicCatalogue", "checkGap", "(I)V"⟩ ⟨"MosaicCatalogue", "checkGap", "(I)V"⟩ ∈ js_ws := js_ws_of 12 (by decide +kernel) (by decide +kernel)
theorem ks_11 : Jvm.Cond.selects "MosaicCatalogue" ⟨"MosaicCatalogue", "gapOf", "(II)I"⟩ ⟨"MosaicCatalogue", "gapOf", "(II)I"⟩ ∈ js_ws := js_ws_of 11 (by decide +kernel) (by decide +kernel)
theorem ks_10 : Jvm.Cond.selects "MosaicCatalogue" ⟨"MosaicCatalogue", "gridPieceOf", "(I)LMosaicCatalogue$Fragment;"⟩ ⟨"MosaicCatalogue", "gridPieceOf", "(I)LMosaicCatalogue$Fragment;"⟩ ∈ js_ws := js_ws_of 10 (by decide +kernel) (by decide +kernel)
theorem ks_13 : Jvm.Cond.selects "MosaicCatalogue" ⟨"MosaicCatalogue", "guessFor", "(II)LMosaicCatalogue$Fragment;"⟩ ⟨"MosaicCatalogue", "guessFor", "(II)LMosaicCatalogue$Fragment;"⟩ ∈ js_ws := js_ws_of 13 (by decide +kernel) (by decide +kernel)
theorem ks_20 : Jvm.Cond.selects "MosaicCatalogue" ⟨"MosaicCatalogue", "perform", "(LMosaicCatalogue$Command;)I"⟩ ⟨"MosaicCatalogue", "perform", "(LMosaicCatalogue$Command;)I"⟩ ∈ js_ws := js_ws_of 20 (by decide +kernel) (by decide +kernel)
theorem ks_9 : Jvm.Cond.selects "MosaicCatalogue" ⟨"MosaicCatalogue", "pieceOf", "(I)LMosaicCatalogue$Fragment;"⟩ ⟨"MosaicCatalogue", "pieceOf", "(I)LMosaicCatalogue$Fragment;"⟩ ∈ js_ws := js_ws_of 9 (by decide +kernel) (by decide +kernel)
theorem ks_5 : Jvm.Cond.selects "MosaicCatalogue" ⟨"MosaicCatalogue", "settle", "(I)I"⟩ ⟨"MosaicCatalogue", "settle", "(I)I"⟩ ∈ js_ws := js_ws_of 5 (by decide +kernel) (by decide +kernel)
theorem ks_14 : Jvm.Cond.selects "MosaicCatalogue" ⟨"MosaicCatalogue", "signOf", "(I)C"⟩ ⟨"MosaicCatalogue", "signOf", "(I)C"⟩ ∈ js_ws := js_ws_of 14 (by decide +kernel) (by decide +kernel)
theorem ks_0 : Jvm.Cond.selects "MosaicCatalogue$Board" ⟨"MosaicCatalogue$Board", "indexOf", "(I)I"⟩ ⟨"MosaicCatalogue$Board", "indexOf", "(I)I"⟩ ∈ js_ws := js_ws_of 0 (by decide +kernel) (by decide +kernel)
theorem ks_8 : Jvm.Cond.selects "MosaicCatalogue$Groups" ⟨"MosaicCatalogue$Groups", "rootOf", "(I)I"⟩ ⟨"MosaicCatalogue$Groups", "rootOf", "(I)I"⟩ ∈ js_ws := js_ws_of 8 (by decide +kernel) (by decide +kernel)
theorem ks_7 : Jvm.Cond.selects "MosaicCatalogue$Groups" ⟨"MosaicCatalogue$Groups", "unite", "(LMosaicCatalogue$Board;LMosaicCatalogue$Fragment;I)I"⟩ ⟨"MosaicCatalogue$Groups", "unite", "(LMosaicCatalogue$Board;LMosaicCatalogue$Fragment;I)I"⟩ ∈ js_ws := js_ws_of 7 (by decide +kernel) (by decide +kernel)
theorem ks_1 : Jvm.Cond.selects "MosaicCatalogue$Guesses" ⟨"MosaicCatalogue$Guesses", "bestGap", "(LMosaicCatalogue$Board;)I"⟩ ⟨"MosaicCatalogue$Guesses", "bestGap", "(LMosaicCatalogue$Board;)I"⟩ ∈ js_ws := js_ws_of 1 (by decide +kernel) (by decide +kernel)
theorem ks_4 : Jvm.Cond.selects "MosaicCatalogue$Guesses" ⟨"MosaicCatalogue$Guesses", "rankOf", "(LMosaicCatalogue$Board;I)I"⟩ ⟨"MosaicCatalogue$Guesses", "rankOf", "(LMosaicCatalogue$Board;I)I"⟩ ∈ js_ws := js_ws_of 4 (by decide +kernel) (by decide +kernel)
theorem ks_3 : Jvm.Cond.selects "MosaicCatalogue$Guesses" ⟨"MosaicCatalogue$Guesses", "topWeight", "(LMosaicCatalogue$Fragment;)I"⟩ ⟨"MosaicCatalogue$Guesses", "topWeight", "(LMosaicCatalogue$Fragment;)I"⟩ ∈ js_ws := js_ws_of 3 (by decide +kernel) (by decide +kernel)
theorem ks_2 : Jvm.Cond.selects "MosaicCatalogue$Guesses" ⟨"MosaicCatalogue$Guesses", "topWeightAbove", "(ILMosaicCatalogue$Board;)I"⟩ ⟨"MosaicCatalogue$Guesses", "topWeightAbove", "(ILMosaicCatalogue$Board;)I"⟩ ∈ js_ws := js_ws_of 2 (by decide +kernel) (by decide +kernel)
theorem ks_17 : Jvm.Cond.selects "MosaicCatalogue$Script" ⟨"MosaicCatalogue$Script", "commonLength", "(Ljava/lang/String;)I"⟩ ⟨"MosaicCatalogue$Script", "commonLength", "(Ljava/lang/String;)I"⟩ ∈ js_ws := js_ws_of 17 (by decide +kernel) (by decide +kernel)
theorem ks_15 : Jvm.Cond.selects "MosaicCatalogue$Script" ⟨"MosaicCatalogue$Script", "readCommand", "(LMosaicCatalogue$Command;)Z"⟩ ⟨"MosaicCatalogue$Script", "readCommand", "(LMosaicCatalogue$Command;)Z"⟩ ∈ js_ws := js_ws_of 15 (by decide +kernel) (by decide +kernel)
theorem ks_16 : Jvm.Cond.selects "MosaicCatalogue$Script" ⟨"MosaicCatalogue$Script", "readKeyword", "()LMosaicCatalogue$Keyword;"⟩ ⟨"MosaicCatalogue$Script", "readKeyword", "()LMosaicCatalogue$Keyword;"⟩ ∈ js_ws := js_ws_of 16 (by decide +kernel) (by decide +kernel)
theorem ks_18 : Jvm.Cond.selects "MosaicCatalogue$Script" ⟨"MosaicCatalogue$Script", "readNumber", "()I"⟩ ⟨"MosaicCatalogue$Script", "readNumber", "()I"⟩ ∈ js_ws := js_ws_of 18 (by decide +kernel) (by decide +kernel)
theorem ks_19 : Jvm.Cond.selects "MosaicCatalogue$Script" ⟨"MosaicCatalogue$Script", "readSign", "(C)I"⟩ ⟨"MosaicCatalogue$Script", "readSign", "(C)I"⟩ ∈ js_ws := js_ws_of 19 (by decide +kernel) (by decide +kernel)
theorem ks_62 : Jvm.Cond.selects "MosaicCatalogueModel" ⟨"MosaicCatalogueModel", "behind", "(I)I"⟩ ⟨"MosaicCatalogueModel", "behind", "(I)I"⟩ ∈ js_ws := js_ws_of 62 (by decide +kernel) (by decide +kernel)
theorem ks_58 : Jvm.Cond.selects "MosaicCatalogueModel" ⟨"MosaicCatalogueModel", "bestGap", "()I"⟩ ⟨"MosaicCatalogueModel", "bestGap", "()I"⟩ ∈ js_ws := js_ws_of 58 (by decide +kernel) (by decide +kernel)
theorem ks_53 : Jvm.Cond.selects "MosaicCatalogueModel" ⟨"MosaicCatalogueModel", "bestPoints", "(II)I"⟩ ⟨"MosaicCatalogueModel", "bestPoints", "(II)I"⟩ ∈ js_ws := js_ws_of 53 (by decide +kernel) (by decide +kernel)
theorem ks_40 : Jvm.Cond.selects "MosaicCatalogueModel" ⟨"MosaicCatalogueModel", "contact", "(II)I"⟩ ⟨"MosaicCatalogueModel", "contact", "(II)I"⟩ ∈ js_ws := js_ws_of 40 (by decide +kernel) (by decide +kernel)
theorem ks_39 : Jvm.Cond.selects "MosaicCatalogueModel" ⟨"MosaicCatalogueModel", "contacts", "(II)I"⟩ ⟨"MosaicCatalogueModel", "contacts", "(II)I"⟩ ∈ js_ws := js_ws_of 39 (by decide +kernel) (by decide +kernel)
theorem ks_22 : Jvm.Cond.selects "MosaicCatalogueModel" ⟨"MosaicCatalogueModel", "doAddFragment", "(CIIII)I"⟩ ⟨"MosaicCatalogueModel", "doAddFragment", "(CIIII)I"⟩ ∈ js_ws := js_ws_of 22 (by decide +kernel) (by decide +kernel)
theorem ks_57 : Jvm.Cond.selects "MosaicCatalogueModel" ⟨"MosaicCatalogueModel", "doFill", "()I"⟩ ⟨"MosaicCatalogueModel", "doFill", "()I"⟩ ∈ js_ws := js_ws_of 57 (by decide +kernel) (by decide +kernel)
theorem ks_37 : Jvm.Cond.selects "MosaicCatalogueModel" ⟨"MosaicCatalogueModel", "doPlace", "(III)I"⟩ ⟨"MosaicCatalogueModel", "doPlace", "(III)I"⟩ ∈ js_ws := js_ws_of 37 (by decide +kernel) (by decide +kernel)
theorem ks_47 : Jvm.Cond.selects "MosaicCatalogueModel" ⟨"MosaicCatalogueModel", "doPlaceGuess", "(II)I"⟩ ⟨"MosaicCatalogueModel", "doPlaceGuess", "(II)I"⟩ ∈ js_ws := js_ws_of 47 (by decide +kernel) (by decide +kernel)
theorem ks_31 : Jvm.Cond.selects "MosaicCatalogueModel" ⟨"MosaicCatalogueModel", "doRemoveFragment", "(I)I"⟩ ⟨"MosaicCatalogueModel", "doRemoveFragment", "(I)I"⟩ ∈ js_ws := js_ws_of 31 (by decide +kernel) (by decide +kernel)
theorem ks_44 : Jvm.Cond.selects "MosaicCatalogueModel" ⟨"MosaicCatalogueModel", "doSetTurn", "(II)I"⟩ ⟨"MosaicCatalogueModel", "doSetTurn", "(II)I"⟩ ∈ js_ws := js_ws_of 44 (by decide +kernel) (by decide +kernel)
theorem ks_45 : Jvm.Cond.selects "MosaicCatalogueModel" ⟨"MosaicCatalogueModel", "doSwap", "(II)I"⟩ ⟨"MosaicCatalogueModel", "doSwap", "(II)I"⟩ ∈ js_ws := js_ws_of 45 (by decide +kernel) (by decide +kernel)
theorem ks_43 : Jvm.Cond.selects "MosaicCatalogueModel" ⟨"MosaicCatalogueModel", "doTakeBack", "(I)I"⟩ ⟨"MosaicCatalogueModel", "doTakeBack", "(I)I"⟩ ∈ js_ws := js_ws_of 43 (by decide +kernel) (by decide +kernel)
theorem ks_66 : Jvm.Cond.selects "MosaicCatalogueModel" ⟨"MosaicCatalogueModel", "does", "(I)V"⟩ ⟨"MosaicCatalogueModel", "does", "(I)V"⟩ ∈ js_ws := js_ws_of 66 (by decide +kernel) (by decide +kernel)
theorem ks_30 : Jvm.Cond.selects "MosaicCatalogueModel" ⟨"MosaicCatalogueModel", "ends", "(I)I"⟩ ⟨"MosaicCatalogueModel", "ends", "(I)I"⟩ ∈ js_ws := js_ws_of 30 (by decide +kernel) (by decide +kernel)
theorem ks_23 : Jvm.Cond.selects "MosaicCatalogueModel" ⟨"MosaicCatalogueModel", "fails", "(I)I"⟩ ⟨"MosaicCatalogueModel", "fails", "(I)I"⟩ ∈ js_ws := js_ws_of 23 (by decide +kernel) (by decide +kernel)
theorem ks_59 : Jvm.Cond.selects "MosaicCatalogueModel" ⟨"MosaicCatalogueModel", "group", "(I)J"⟩ ⟨"MosaicCatalogueModel", "group", "(I)J"⟩ ∈ js_ws := js_ws_of 59 (by decide +kernel) (by decide +kernel)
theorem ks_51 : Jvm.Cond.selects "MosaicCatalogueModel" ⟨"MosaicCatalogueModel", "guess", "(I)I"⟩ ⟨"MosaicCatalogueModel", "guess", "(I)I"⟩ ∈ js_ws := js_ws_of 51 (by decide +kernel) (by decide +kernel)
theorem ks_34 : Jvm.Cond.selects "MosaicCatalogueModel" ⟨"MosaicCatalogueModel", "idOf", "(I)I"⟩ ⟨"MosaicCatalogueModel", "idOf", "(I)I"⟩ ∈ js_ws := js_ws_of 34 (by decide +kernel) (by decide +kernel)
theorem ks_52 : Jvm.Cond.selects "MosaicCatalogueModel" ⟨"MosaicCatalogueModel", "isBetter", "(III)Z"⟩ ⟨"MosaicCatalogueModel", "isBetter", "(III)Z"⟩ ∈ js_ws := js_ws_of 52 (by decide +kernel) (by decide +kernel)
theorem ks_49 : Jvm.Cond.selects "MosaicCatalogueModel" ⟨"MosaicCatalogueModel", "isGap", "(I)Z"⟩ ⟨"MosaicCatalogueModel", "isGap", "(I)Z"⟩ ∈ js_ws := js_ws_of 49 (by decide +kernel) (by decide +kernel)
theorem ks_25 : Jvm.Cond.selects "MosaicCatalogueModel" ⟨"MosaicCatalogueModel", "isLoose", "(I)Z"⟩ ⟨"MosaicCatalogueModel", "isLoose", "(I)Z"⟩ ∈ js_ws := js_ws_of 25 (by decide +kernel) (by decide +kernel)
theorem ks_28 : Jvm.Cond.selects "MosaicCatalogueModel" ⟨"MosaicCatalogueModel", "isOnGrid", "(I)Z"⟩ ⟨"MosaicCatalogueModel", "isOnGrid", "(I)Z"⟩ ∈ js_ws := js_ws_of 28 (by decide +kernel) (by decide +kernel)
theorem ks_33 : Jvm.Cond.selects "MosaicCatalogueModel" ⟨"MosaicCatalogueModel", "isThere", "(Z)Z"⟩ ⟨"MosaicCatalogueModel", "isThere", "(Z)Z"⟩ ∈ js_ws := js_ws_of 33 (by decide +kernel) (by decide +kernel)
theorem ks_26 : Jvm.Cond.selects "MosaicCatalogueModel" ⟨"MosaicCatalogueModel", "isUsed", "(I)Z"⟩ ⟨"MosaicCatalogueModel", "isUsed", "(I)Z"⟩ ∈ js_ws := js_ws_of 26 (by decide +kernel) (by decide +kernel)
theorem ks_21 : Jvm.Cond.selects "MosaicCatalogueModel" ⟨"MosaicCatalogueModel", "keep", "()V"⟩ ⟨"MosaicCatalogueModel", "keep", "()V"⟩ ∈ js_ws := js_ws_of 21 (by decide +kernel) (by decide +kernel)
theorem ks_38 : Jvm.Cond.selects "MosaicCatalogueModel" ⟨"MosaicCatalogueModel", "lays", "(II)V"⟩ ⟨"MosaicCatalogueModel", "lays", "(II)V"⟩ ∈ js_ws := js_ws_of 38 (by decide +kernel) (by decide +kernel)
theorem ks_56 : Jvm.Cond.selects "MosaicCatalogueModel" ⟨"MosaicCatalogueModel", "laysGuess", "(II)V"⟩ ⟨"MosaicCatalogueModel", "laysGuess", "(II)V"⟩ ∈ js_ws := js_ws_of 56 (by decide +kernel) (by decide +kernel)
theorem ks_24 : Jvm.Cond.selects "MosaicCatalogueModel" ⟨"MosaicCatalogueModel", "many", "(Z)I"⟩ ⟨"MosaicCatalogueModel", "many", "(Z)I"⟩ ∈ js_ws := js_ws_of 24 (by decide +kernel) (by decide +kernel)
theorem ks_42 : Jvm.Cond.selects "MosaicCatalogueModel" ⟨"MosaicCatalogueModel", "meeting", "(II)I"⟩ ⟨"MosaicCatalogueModel", "meeting", "(II)I"⟩ ∈ js_ws := js_ws_of 42 (by decide +kernel) (by decide +kernel)
theorem ks_48 : Jvm.Cond.selects "MosaicCatalogueModel" ⟨"MosaicCatalogueModel", "notGap", "(II)I"⟩ ⟨"MosaicCatalogueModel", "notGap", "(II)I"⟩ ∈ js_ws := js_ws_of 48 (by decide +kernel) (by decide +kernel)
theorem ks_27 : Jvm.Cond.selects "MosaicCatalogueModel" ⟨"MosaicCatalogueModel", "of", "(II)I"⟩ ⟨"MosaicCatalogueModel", "of", "(II)I"⟩ ∈ js_ws := js_ws_of 27 (by decide +kernel) (by decide +kernel)
theorem ks_50 : Jvm.Cond.selects "MosaicCatalogueModel" ⟨"MosaicCatalogueModel", "outline", "(I)I"⟩ ⟨"MosaicCatalogueModel", "outline", "(I)I"⟩ ∈ js_ws := js_ws_of 50 (by decide +kernel) (by decide +kernel)
theorem ks_46 : Jvm.Cond.selects "MosaicCatalogueModel" ⟨"MosaicCatalogueModel", "pairs", "(I)I"⟩ ⟨"MosaicCatalogueModel", "pairs", "(I)I"⟩ ∈ js_ws := js_ws_of 46 (by decide +kernel) (by decide +kernel)
theorem ks_35 : Jvm.Cond.selects "MosaicCatalogueModel" ⟨"MosaicCatalogueModel", "pattern", "(III)I"⟩ ⟨"MosaicCatalogueModel", "pattern", "(III)I"⟩ ∈ js_ws := js_ws_of 35 (by decide +kernel) (by decide +kernel)
theorem ks_36 : Jvm.Cond.selects "MosaicCatalogueModel" ⟨"MosaicCatalogueModel", "placed", "(I)I"⟩ ⟨"MosaicCatalogueModel", "placed", "(I)I"⟩ ∈ js_ws := js_ws_of 36 (by decide +kernel) (by decide +kernel)
theorem ks_55 : Jvm.Cond.selects "MosaicCatalogueModel" ⟨"MosaicCatalogueModel", "points", "(III)I"⟩ ⟨"MosaicCatalogueModel", "points", "(III)I"⟩ ∈ js_ws := js_ws_of 55 (by decide +kernel) (by decide +kernel)
theorem ks_61 : Jvm.Cond.selects "MosaicCatalogueModel" ⟨"MosaicCatalogueModel", "readCommand", "()V"⟩ ⟨"MosaicCatalogueModel", "readCommand", "()V"⟩ ∈ js_ws := js_ws_of 61 (by decide +kernel) (by decide +kernel)
theorem ks_64 : Jvm.Cond.selects "MosaicCatalogueModel" ⟨"MosaicCatalogueModel", "readDigit", "(I)I"⟩ ⟨"MosaicCatalogueModel", "readDigit", "(I)I"⟩ ∈ js_ws := js_ws_of 64 (by decide +kernel) (by decide +kernel)
theorem ks_65 : Jvm.Cond.selects "MosaicCatalogueModel" ⟨"MosaicCatalogueModel", "readNumber", "()I"⟩ ⟨"MosaicCatalogueModel", "readNumber", "()I"⟩ ∈ js_ws := js_ws_of 65 (by decide +kernel) (by decide +kernel)
theorem ks_60 : Jvm.Cond.selects "MosaicCatalogueModel" ⟨"MosaicCatalogueModel", "says", "(I)V"⟩ ⟨"MosaicCatalogueModel", "says", "(I)V"⟩ ∈ js_ws := js_ws_of 60 (by decide +kernel) (by decide +kernel)
theorem ks_29 : Jvm.Cond.selects "MosaicCatalogueModel" ⟨"MosaicCatalogueModel", "sets", "(III)V"⟩ ⟨"MosaicCatalogueModel", "sets", "(III)V"⟩ ∈ js_ws := js_ws_of 29 (by decide +kernel) (by decide +kernel)
theorem ks_63 : Jvm.Cond.selects "MosaicCatalogueModel" ⟨"MosaicCatalogueModel", "skip", "(Ljava/lang/String;)V"⟩ ⟨"MosaicCatalogueModel", "skip", "(Ljava/lang/String;)V"⟩ ∈ js_ws := js_ws_of 63 (by decide +kernel) (by decide +kernel)
theorem ks_41 : Jvm.Cond.selects "MosaicCatalogueModel" ⟨"MosaicCatalogueModel", "slotBeside", "(II)I"⟩ ⟨"MosaicCatalogueModel", "slotBeside", "(II)I"⟩ ∈ js_ws := js_ws_of 41 (by decide +kernel) (by decide +kernel)
theorem ks_32 : Jvm.Cond.selects "MosaicCatalogueModel" ⟨"MosaicCatalogueModel", "slotOf", "(I)I"⟩ ⟨"MosaicCatalogueModel", "slotOf", "(I)I"⟩ ∈ js_ws := js_ws_of 32 (by decide +kernel) (by decide +kernel)
theorem ks_54 : Jvm.Cond.selects "MosaicCatalogueModel" ⟨"MosaicCatalogueModel", "turnFor", "(II)I"⟩ ⟨"MosaicCatalogueModel", "turnFor", "(II)I"⟩ ∈ js_ws := js_ws_of 54 (by decide +kernel) (by decide +kernel)
theorem kc_0 : js_code 0 ∈ js_ws := js_ws_of 112 (by decide +kernel) (by decide +kernel)
theorem kc_1 : js_code 1 ∈ js_ws := js_ws_of 361 (by decide +kernel) (by decide +kernel)
theorem kc_2 : js_code 2 ∈ js_ws := js_ws_of 331 (by decide +kernel) (by decide +kernel)
theorem kc_3 : js_code 3 ∈ js_ws := js_ws_of 327 (by decide +kernel) (by decide +kernel)
theorem kc_4 : js_code 4 ∈ js_ws := js_ws_of 315 (by decide +kernel) (by decide +kernel)
theorem kc_5 : js_code 5 ∈ js_ws := js_ws_of 732 (by decide +kernel) (by decide +kernel)
theorem kc_6 : js_code 6 ∈ js_ws := js_ws_of 682 (by decide +kernel) (by decide +kernel)
theorem kc_7 : js_code 7 ∈ js_ws := js_ws_of 700 (by decide +kernel) (by decide +kernel)
theorem kc_8 : js_code 8 ∈ js_ws := js_ws_of 794 (by decide +kernel) (by decide +kernel)
theorem kc_9 : js_code 9 ∈ js_ws := js_ws_of 437 (by decide +kernel) (by decide +kernel)
theorem kc_10 : js_code 10 ∈ js_ws := js_ws_of 811 (by decide +kernel) (by decide +kernel)
theorem kc_11 : js_code 11 ∈ js_ws := js_ws_of 822 (by decide +kernel) (by decide +kernel)
theorem kc_12 : js_code 12 ∈ js_ws := js_ws_of 833 (by decide +kernel) (by decide +kernel)
theorem kc_13 : js_code 13 ∈ js_ws := js_ws_of 388 (by decide +kernel) (by decide +kernel)
theorem kc_14 : js_code 14 ∈ js_ws := js_ws_of 384 (by decide +kernel) (by decide +kernel)
theorem kc_15 : js_code 15 ∈ js_ws := js_ws_of 380 (by decide +kernel) (by decide +kernel)
theorem kc_16 : js_code 16 ∈ js_ws := js_ws_of 614 (by decide +kernel) (by decide +kernel)
theorem kc_17 : js_code 17 ∈ js_ws := js_ws_of 800 (by decide +kernel) (by decide +kernel)
theorem kc_18 : js_code 18 ∈ js_ws := js_ws_of 610 (by decide +kernel) (by decide +kernel)
theorem kc_19 : js_code 19 ∈ js_ws := js_ws_of 236 (by decide +kernel) (by decide +kernel)
theorem kc_20 : js_code 20 ∈ js_ws := js_ws_of 119 (by decide +kernel) (by decide +kernel)
theorem kc_21 : js_code 21 ∈ js_ws := js_ws_of 319 (by decide +kernel) (by decide +kernel)
theorem kc_22 : js_code 22 ∈ js_ws := js_ws_of 339 (by decide +kernel) (by decide +kernel)
theorem kc_23 : js_code 23 ∈ js_ws := js_ws_of 365 (by decide +kernel) (by decide +kernel)
theorem kc_24 : js_code 24 ∈ js_ws := js_ws_of 215 (by decide +kernel) (by decide +kernel)
theorem kc_25 : js_code 25 ∈ js_ws := js_ws_of 634 (by decide +kernel) (by decide +kernel)
theorem kc_26 : js_code 26 ∈ js_ws := js_ws_of 628 (by decide +kernel) (by decide +kernel)
theorem kc_27 : js_code 27 ∈ js_ws := js_ws_of 987 (by decide +kernel) (by decide +kernel)
theorem kc_28 : js_code 28 ∈ js_ws := js_ws_of 644 (by decide +kernel) (by decide +kernel)
theorem kc_29 : js_code 29 ∈ js_ws := js_ws_of 649 (by decide +kernel) (by decide +kernel)
theorem kc_30 : js_code 30 ∈ js_ws := js_ws_of 653 (by decide +kernel) (by decide +kernel)
theorem kc_31 : js_code 31 ∈ js_ws := js_ws_of 195 (by decide +kernel) (by decide +kernel)
theorem kc_32 : js_code 32 ∈ js_ws := js_ws_of 396 (by decide +kernel) (by decide +kernel)
theorem kc_33 : js_code 33 ∈ js_ws := js_ws_of 414 (by decide +kernel) (by decide +kernel)
theorem kc_34 : js_code 34 ∈ js_ws := js_ws_of 433 (by decide +kernel) (by decide +kernel)
theorem kc_35 : js_code 35 ∈ js_ws := js_ws_of 410 (by decide +kernel) (by decide +kernel)
theorem kc_36 : js_code 36 ∈ js_ws := js_ws_of 421 (by decide +kernel) (by decide +kernel)
theorem kc_37 : js_code 37 ∈ js_ws := js_ws_of 425 (by decide +kernel) (by decide +kernel)
theorem kc_38 : js_code 38 ∈ js_ws := js_ws_of 429 (by decide +kernel) (by decide +kernel)
theorem kc_39 : js_code 39 ∈ js_ws := js_ws_of 405 (by decide +kernel) (by decide +kernel)
theorem kc_40 : js_code 40 ∈ js_ws := js_ws_of 376 (by decide +kernel) (by decide +kernel)
theorem kc_41 : js_code 41 ∈ js_ws := js_ws_of 372 (by decide +kernel) (by decide +kernel)
theorem kc_42 : js_code 42 ∈ js_ws := js_ws_of 175 (by decide +kernel) (by decide +kernel)
theorem kc_43 : js_code 43 ∈ js_ws := js_ws_of 353 (by decide +kernel) (by decide +kernel)
theorem kc_44 : js_code 44 ∈ js_ws := js_ws_of 357 (by decide +kernel) (by decide +kernel)
theorem kc_45 : js_code 45 ∈ js_ws := js_ws_of 568 (by decide +kernel) (by decide +kernel)
theorem kc_46 : js_code 46 ∈ js_ws := js_ws_of 1214 (by decide +kernel) (by decide +kernel)
theorem kc_47 : js_code 47 ∈ js_ws := js_ws_of 1226 (by decide +kernel) (by decide +kernel)
theorem kc_48 : js_code 48 ∈ js_ws := js_ws_of 229 (by decide +kernel) (by decide +kernel)
theorem kc_49 : js_code 49 ∈ js_ws := js_ws_of 1073 (by decide +kernel) (by decide +kernel)
theorem kc_50 : js_code 50 ∈ js_ws := js_ws_of 1078 (by decide +kernel) (by decide +kernel)
theorem kc_51 : js_code 51 ∈ js_ws := js_ws_of 1171 (by decide +kernel) (by decide +kernel)
theorem kc_52 : js_code 52 ∈ js_ws := js_ws_of 1089 (by decide +kernel) (by decide +kernel)
theorem kc_53 : js_code 53 ∈ js_ws := js_ws_of 1093 (by decide +kernel) (by decide +kernel)
theorem kc_54 : js_code 54 ∈ js_ws := js_ws_of 1097 (by decide +kernel) (by decide +kernel)
theorem kc_55 : js_code 55 ∈ js_ws := js_ws_of 1103 (by decide +kernel) (by decide +kernel)
theorem kc_56 : js_code 56 ∈ js_ws := js_ws_of 1156 (by decide +kernel) (by decide +kernel)
theorem kc_57 : js_code 57 ∈ js_ws := js_ws_of 1160 (by decide +kernel) (by decide +kernel)
theorem kc_58 : js_code 58 ∈ js_ws := js_ws_of 1163 (by decide +kernel) (by decide +kernel)
theorem kc_80 : js_code 80 ∈ js_ws := js_ws_of 575 (by decide +kernel) (by decide +kernel)
theorem kc_82 : js_code 82 ∈ js_ws := js_ws_of 582 (by decide +kernel) (by decide +kernel)
theorem kc_83 : js_code 83 ∈ js_ws := js_ws_of 587 (by decide +kernel) (by decide +kernel)
theorem kc_94 : js_code 94 ∈ js_ws := js_ws_of 624 (by decide +kernel) (by decide +kernel)
theorem kc_95 : js_code 95 ∈ js_ws := js_ws_of 640 (by decide +kernel) (by decide +kernel)
theorem kc_97 : js_code 97 ∈ js_ws := js_ws_of 971 (by decide +kernel) (by decide +kernel)
theorem kc_99 : js_code 99 ∈ js_ws := js_ws_of 1011 (by decide +kernel) (by decide +kernel)
theorem kc_114 : js_code 114 ∈ js_ws := js_ws_of 441 (by decide +kernel) (by decide +kernel)
theorem kc_115 : js_code 115 ∈ js_ws := js_ws_of 444 (by decide +kernel) (by decide +kernel)
theorem kc_116 : js_code 116 ∈ js_ws := js_ws_of 744 (by decide +kernel) (by decide +kernel)
theorem kc_117 : js_code 117 ∈ js_ws := js_ws_of 782 (by decide +kernel) (by decide +kernel)
theorem kc_118 : js_code 118 ∈ js_ws := js_ws_of 849 (by decide +kernel) (by decide +kernel)
theorem kc_119 : js_code 119 ∈ js_ws := js_ws_of 846 (by decide +kernel) (by decide +kernel)
theorem kc_120 : js_code 120 ∈ js_ws := js_ws_of 853 (by decide +kernel) (by decide +kernel)
theorem kc_121 : js_code 121 ∈ js_ws := js_ws_of 873 (by decide +kernel) (by decide +kernel)
theorem kc_122 : js_code 122 ∈ js_ws := js_ws_of 761 (by decide +kernel) (by decide +kernel)
theorem kc_123 : js_code 123 ∈ js_ws := js_ws_of 936 (by decide +kernel) (by decide +kernel)
theorem kc_124 : js_code 124 ∈ js_ws := js_ws_of 1044 (by decide +kernel) (by decide +kernel)
theorem kc_125 : js_code 125 ∈ js_ws := js_ws_of 1176 (by decide +kernel) (by decide +kernel)
theorem kc_126 : js_code 126 ∈ js_ws := js_ws_of 688 (by decide +kernel) (by decide +kernel)
theorem kc_127 : js_code 127 ∈ js_ws := js_ws_of 685 (by decide +kernel) (by decide +kernel)
theorem kc_128 : js_code 128 ∈ js_ws := js_ws_of 400 (by decide +kernel) (by decide +kernel)
theorem kc_129 : js_code 129 ∈ js_ws := js_ws_of 578 (by decide +kernel) (by decide +kernel)
theorem kc_130 : js_code 130 ∈ js_ws := js_ws_of 1054 (by decide +kernel) (by decide +kernel)
theorem kc_131 : js_code 131 ∈ js_ws := js_ws_of 1167 (by decide +kernel) (by decide +kernel)
theorem kc_132 : js_code 132 ∈ js_ws := js_ws_of 1025 (by decide +kernel) (by decide +kernel)
theorem kc_135 : js_code 135 ∈ js_ws := js_ws_of 1304 (by decide +kernel) (by decide +kernel)
theorem kc_136 : js_code 136 ∈ js_ws := js_ws_of 1296 (by decide +kernel) (by decide +kernel)
theorem kc_137 : js_code 137 ∈ js_ws := js_ws_of 1339 (by decide +kernel) (by decide +kernel)
theorem kc_138 : js_code 138 ∈ js_ws := js_ws_of 1311 (by decide +kernel) (by decide +kernel)
theorem kc_139 : js_code 139 ∈ js_ws := js_ws_of 1367 (by decide +kernel) (by decide +kernel)
theorem kc_140 : js_code 140 ∈ js_ws := js_ws_of 1327 (by decide +kernel) (by decide +kernel)
theorem kc_141 : js_code 141 ∈ js_ws := js_ws_of 1335 (by decide +kernel) (by decide +kernel)
theorem kc_142 : js_code 142 ∈ js_ws := js_ws_of 1323 (by decide +kernel) (by decide +kernel)
theorem kc_143 : js_code 143 ∈ js_ws := js_ws_of 1371 (by decide +kernel) (by decide +kernel)
theorem kc_144 : js_code 144 ∈ js_ws := js_ws_of 1351 (by decide +kernel) (by decide +kernel)
theorem kc_145 : js_code 145 ∈ js_ws := js_ws_of 1331 (by decide +kernel) (by decide +kernel)
theorem kc_146 : js_code 146 ∈ js_ws := js_ws_of 1403 (by decide +kernel) (by decide +kernel)
theorem kc_147 : js_code 147 ∈ js_ws := js_ws_of 1319 (by decide +kernel) (by decide +kernel)
theorem kc_148 : js_code 148 ∈ js_ws := js_ws_of 1315 (by decide +kernel) (by decide +kernel)
theorem kc_149 : js_code 149 ∈ js_ws := js_ws_of 1418 (by decide +kernel) (by decide +kernel)
theorem kc_150 : js_code 150 ∈ js_ws := js_ws_of 1307 (by decide +kernel) (by decide +kernel)
theorem kc_151 : js_code 151 ∈ js_ws := js_ws_of 1437 (by decide +kernel) (by decide +kernel)
theorem kc_152 : js_code 152 ∈ js_ws := js_ws_of 1434 (by decide +kernel) (by decide +kernel)
theorem kc_153 : js_code 153 ∈ js_ws := js_ws_of 1391 (by decide +kernel) (by decide +kernel)
theorem kc_154 : js_code 154 ∈ js_ws := js_ws_of 1441 (by decide +kernel) (by decide +kernel)
theorem kc_155 : js_code 155 ∈ js_ws := js_ws_of 1430 (by decide +kernel) (by decide +kernel)
theorem kc_156 : js_code 156 ∈ js_ws := js_ws_of 1426 (by decide +kernel) (by decide +kernel)
theorem kc_157 : js_code 157 ∈ js_ws := js_ws_of 1469 (by decide +kernel) (by decide +kernel)
theorem kc_158 : js_code 158 ∈ js_ws := js_ws_of 1489 (by decide +kernel) (by decide +kernel)
theorem kc_159 : js_code 159 ∈ js_ws := js_ws_of 1485 (by decide +kernel) (by decide +kernel)
theorem kc_160 : js_code 160 ∈ js_ws := js_ws_of 1301 (by decide +kernel) (by decide +kernel)
theorem kc_162 : js_code 162 ∈ js_ws := js_ws_of 1347 (by decide +kernel) (by decide +kernel)
theorem kc_174 : js_code 174 ∈ js_ws := js_ws_of 1422 (by decide +kernel) (by decide +kernel)
theorem kc_175 : js_code 175 ∈ js_ws := js_ws_of 1415 (by decide +kernel) (by decide +kernel)
theorem kc_177 : js_code 177 ∈ js_ws := js_ws_of 1449 (by decide +kernel) (by decide +kernel)
theorem kc_179 : js_code 179 ∈ js_ws := js_ws_of 1457 (by decide +kernel) (by decide +kernel)
theorem kc_181 : js_code 181 ∈ js_ws := js_ws_of 1465 (by decide +kernel) (by decide +kernel)
theorem kc_183 : js_code 183 ∈ js_ws := js_ws_of 1509 (by decide +kernel) (by decide +kernel)
theorem kc_184 : js_code 184 ∈ js_ws := js_ws_of 1505 (by decide +kernel) (by decide +kernel)
theorem kc_185 : js_code 185 ∈ js_ws := js_ws_of 1501 (by decide +kernel) (by decide +kernel)
theorem kc_186 : js_code 186 ∈ js_ws := js_ws_of 1497 (by decide +kernel) (by decide +kernel)
theorem kc_187 : js_code 187 ∈ js_ws := js_ws_of 1493 (by decide +kernel) (by decide +kernel)
theorem kc_188 : js_code 188 ∈ js_ws := js_ws_of 1513 (by decide +kernel) (by decide +kernel)
theorem kc_189 : js_code 189 ∈ js_ws := js_ws_of 1481 (by decide +kernel) (by decide +kernel)
theorem kc_190 : js_code 190 ∈ js_ws := js_ws_of 1477 (by decide +kernel) (by decide +kernel)
theorem kc_192 : js_code 192 ∈ js_ws := js_ws_of 1521 (by decide +kernel) (by decide +kernel)
theorem kc_193 : js_code 193 ∈ js_ws := js_ws_of 1525 (by decide +kernel) (by decide +kernel)
theorem kc_203 : js_code 203 ∈ js_ws := js_ws_of 1562 (by decide +kernel) (by decide +kernel)
theorem kc_211 : js_code 211 ∈ js_ws := js_ws_of 1599 (by decide +kernel) (by decide +kernel)
theorem kc_212 : js_code 212 ∈ js_ws := js_ws_of 1611 (by decide +kernel) (by decide +kernel)
theorem kc_213 : js_code 213 ∈ js_ws := js_ws_of 1595 (by decide +kernel) (by decide +kernel)
theorem kc_218 : js_code 218 ∈ js_ws := js_ws_of 1623 (by decide +kernel) (by decide +kernel)
theorem kc_222 : js_code 222 ∈ js_ws := js_ws_of 1654 (by decide +kernel) (by decide +kernel)
theorem kc_227 : js_code 227 ∈ js_ws := js_ws_of 1678 (by decide +kernel) (by decide +kernel)
theorem kc_228 : js_code 228 ∈ js_ws := js_ws_of 1683 (by decide +kernel) (by decide +kernel)
theorem kc_229 : js_code 229 ∈ js_ws := js_ws_of 1692 (by decide +kernel) (by decide +kernel)
theorem kc_230 : js_code 230 ∈ js_ws := js_ws_of 1689 (by decide +kernel) (by decide +kernel)
theorem kc_231 : js_code 231 ∈ js_ws := js_ws_of 1697 (by decide +kernel) (by decide +kernel)
theorem kc_232 : js_code 232 ∈ js_ws := js_ws_of 1674 (by decide +kernel) (by decide +kernel)
theorem kc_233 : js_code 233 ∈ js_ws := js_ws_of 1709 (by decide +kernel) (by decide +kernel)
theorem kc_241 : js_code 241 ∈ js_ws := js_ws_of 1184 (by decide +kernel) (by decide +kernel)
theorem kc_242 : js_code 242 ∈ js_ws := js_ws_of 1634 (by decide +kernel) (by decide +kernel)
theorem kc_243 : js_code 243 ∈ js_ws := js_ws_of 1631 (by decide +kernel) (by decide +kernel)
theorem kc_244 : js_code 244 ∈ js_ws := js_ws_of 342 (by decide +kernel) (by decide +kernel)
theorem kc_245 : js_code 245 ∈ js_ws := js_ws_of 599 (by decide +kernel) (by decide +kernel)
theorem kc_246 : js_code 246 ∈ js_ws := js_ws_of 417 (by decide +kernel) (by decide +kernel)
theorem kc_247 : js_code 247 ∈ js_ws := js_ws_of 571 (by decide +kernel) (by decide +kernel)
theorem kc_248 : js_code 248 ∈ js_ws := js_ws_of 1107 (by decide +kernel) (by decide +kernel)
theorem kc_249 : js_code 249 ∈ js_ws := js_ws_of 1117 (by decide +kernel) (by decide +kernel)
theorem kc_250 : js_code 250 ∈ js_ws := js_ws_of 1111 (by decide +kernel) (by decide +kernel)
theorem kc_251 : js_code 251 ∈ js_ws := js_ws_of 1121 (by decide +kernel) (by decide +kernel)
theorem kc_252 : js_code 252 ∈ js_ws := js_ws_of 1127 (by decide +kernel) (by decide +kernel)
theorem kc_253 : js_code 253 ∈ js_ws := js_ws_of 1124 (by decide +kernel) (by decide +kernel)
theorem kc_254 : js_code 254 ∈ js_ws := js_ws_of 1132 (by decide +kernel) (by decide +kernel)
theorem kl_0_0 : ((js_y 0).cls ≠ "java/lang/invoke/MethodHandle" ∧ (js_y 0).cls ≠ "java/lang/invoke/VarHandle" ∧ (parseMethodDescriptor (js_y 0).desc).map (fun d => d.parameters.length) = some 0) := by decide +kernel
theorem kl_1_1 : ((js_y 1).cls ≠ "java/lang/invoke/MethodHandle" ∧ (js_y 1).cls ≠ "java/lang/invoke/VarHandle" ∧ (parseMethodDescriptor (js_y 1).desc).map (fun d => d.parameters.length) = some 1) := by decide +kernel
theorem kl_2_1 : ((js_y 2).cls ≠ "java/lang/invoke/MethodHandle" ∧ (js_y 2).cls ≠ "java/lang/invoke/VarHandle" ∧ (parseMethodDescriptor (js_y 2).desc).map (fun d => d.parameters.length) = some 1) := by decide +kernel
theorem kl_3_1 : ((js_y 3).cls ≠ "java/lang/invoke/MethodHandle" ∧ (js_y 3).cls ≠ "java/lang/invoke/VarHandle" ∧ (parseMethodDescriptor (js_y 3).desc).map (fun d => d.parameters.length) = some 1) := by decide +kernel
theorem kl_4_0 : ((js_y 4).cls ≠ "java/lang/invoke/MethodHandle" ∧ (js_y 4).cls ≠ "java/lang/invoke/VarHandle" ∧ (parseMethodDescriptor (js_y 4).desc).map (fun d => d.parameters.length) = some 0) := by decide +kernel
theorem kl_5_1 : ((js_y 5).cls ≠ "java/lang/invoke/MethodHandle" ∧ (js_y 5).cls ≠ "java/lang/invoke/VarHandle" ∧ (parseMethodDescriptor (js_y 5).desc).map (fun d => d.parameters.length) = some 1) := by decide +kernel
theorem kl_6_5 : ((js_y 6).cls ≠ "java/lang/invoke/MethodHandle" ∧ (js_y 6).cls ≠ "java/lang/invoke/VarHandle" ∧ (parseMethodDescriptor (js_y 6).desc).map (fun d => d.parameters.length) = some 5) := by decide +kernel
theorem kl_7_1 : ((js_y 7).cls ≠ "java/lang/invoke/MethodHandle" ∧ (js_y 7).cls ≠ "java/lang/invoke/VarHandle" ∧ (parseMethodDescriptor (js_y 7).desc).map (fun d => d.parameters.length) = some 1) := by decide +kernel
theorem kl_8_3 : ((js_y 8).cls ≠ "java/lang/invoke/MethodHandle" ∧ (js_y 8).cls ≠ "java/lang/invoke/VarHandle" ∧ (parseMethodDescriptor (js_y 8).desc).map (fun d => d.parameters.length) = some 3) := by decide +kernel
theorem kl_9_2 : ((js_y 9).cls ≠ "java/lang/invoke/MethodHandle" ∧ (js_y 9).cls ≠ "java/lang/invoke/VarHandle" ∧ (parseMethodDescriptor (js_y 9).desc).map (fun d => d.parameters.length) = some 2) := by decide +kernel
theorem kl_10_1 : ((js_y 10).cls ≠ "java/lang/invoke/MethodHandle" ∧ (js_y 10).cls ≠ "java/lang/invoke/VarHandle" ∧ (parseMethodDescriptor (js_y 10).desc).map (fun d => d.parameters.length) = some 1) := by decide +kernel
theorem kl_11_2 : ((js_y 11).cls ≠ "java/lang/invoke/MethodHandle" ∧ (js_y 11).cls ≠ "java/lang/invoke/VarHandle" ∧ (parseMethodDescriptor (js_y 11).desc).map (fun d => d.parameters.length) = some 2) := by decide +kernel
theorem kl_12_2 : ((js_y 12).cls ≠ "java/lang/invoke/MethodHandle" ∧ (js_y 12).cls ≠ "java/lang/invoke/VarHandle" ∧ (parseMethodDescriptor (js_y 12).desc).map (fun d => d.parameters.length) = some 2) := by decide +kernel
theorem kl_13_2 : ((js_y 13).cls ≠ "java/lang/invoke/MethodHandle" ∧ (js_y 13).cls ≠ "java/lang/invoke/VarHandle" ∧ (parseMethodDescriptor (js_y 13).desc).map (fun d => d.parameters.length) = some 2) := by decide +kernel
theorem kl_14_1 : ((js_y 14).cls ≠ "java/lang/invoke/MethodHandle" ∧ (js_y 14).cls ≠ "java/lang/invoke/VarHandle" ∧ (parseMethodDescriptor (js_y 14).desc).map (fun d => d.parameters.length) = some 1) := by decide +kernel
theorem kl_15_1 : ((js_y 15).cls ≠ "java/lang/invoke/MethodHandle" ∧ (js_y 15).cls ≠ "java/lang/invoke/VarHandle" ∧ (parseMethodDescriptor (js_y 15).desc).map (fun d => d.parameters.length) = some 1) := by decide +kernel
theorem kl_16_3 : ((js_y 16).cls ≠ "java/lang/invoke/MethodHandle" ∧ (js_y 16).cls ≠ "java/lang/invoke/VarHandle" ∧ (parseMethodDescriptor (js_y 16).desc).map (fun d => d.parameters.length) = some 3) := by decide +kernel
theorem kl_17_2 : ((js_y 17).cls ≠ "java/lang/invoke/MethodHandle" ∧ (js_y 17).cls ≠ "java/lang/invoke/VarHandle" ∧ (parseMethodDescriptor (js_y 17).desc).map (fun d => d.parameters.length) = some 2) := by decide +kernel
theorem kl_18_1 : ((js_y 18).cls ≠ "java/lang/invoke/MethodHandle" ∧ (js_y 18).cls ≠ "java/lang/invoke/VarHandle" ∧ (parseMethodDescriptor (js_y 18).desc).map (fun d => d.parameters.length) = some 1) := by decide +kernel
theorem kl_19_0 : ((js_y 19).cls ≠ "java/lang/invoke/MethodHandle" ∧ (js_y 19).cls ≠ "java/lang/invoke/VarHandle" ∧ (parseMethodDescriptor (js_y 19).desc).map (fun d => d.parameters.length) = some 0) := by decide +kernel
theorem kl_20_0 : ((js_y 20).cls ≠ "java/lang/invoke/MethodHandle" ∧ (js_y 20).cls ≠ "java/lang/invoke/VarHandle" ∧ (parseMethodDescriptor (js_y 20).desc).map (fun d => d.parameters.length) = some 0) := by decide +kernel
theorem kl_21_0 : ((js_y 21).cls ≠ "java/lang/invoke/MethodHandle" ∧ (js_y 21).cls ≠ "java/lang/invoke/VarHandle" ∧ (parseMethodDescriptor (js_y 21).desc).map (fun d => d.parameters.length) = some 0) := by decide +kernel
theorem kl_22_1 : ((js_y 22).cls ≠ "java/lang/invoke/MethodHandle" ∧ (js_y 22).cls ≠ "java/lang/invoke/VarHandle" ∧ (parseMethodDescriptor (js_y 22).desc).map (fun d => d.parameters.length) = some 1) := by decide +kernel
theorem kl_23_1 : ((js_y 23).cls ≠ "java/lang/invoke/MethodHandle" ∧ (js_y 23).cls ≠ "java/lang/invoke/VarHandle" ∧ (parseMethodDescriptor (js_y 23).desc).map (fun d => d.parameters.length) = some 1) := by decide +kernel
theorem kl_24_0 : ((js_y 24).cls ≠ "java/lang/invoke/MethodHandle" ∧ (js_y 24).cls ≠ "java/lang/invoke/VarHandle" ∧ (parseMethodDescriptor (js_y 24).desc).map (fun d => d.parameters.length) = some 0) := by decide +kernel
theorem kl_25_2 : ((js_y 25).cls ≠ "java/lang/invoke/MethodHandle" ∧ (js_y 25).cls ≠ "java/lang/invoke/VarHandle" ∧ (parseMethodDescriptor (js_y 25).desc).map (fun d => d.parameters.length) = some 2) := by decide +kernel
theorem kl_26_1 : ((js_y 26).cls ≠ "java/lang/invoke/MethodHandle" ∧ (js_y 26).cls ≠ "java/lang/invoke/VarHandle" ∧ (parseMethodDescriptor (js_y 26).desc).map (fun d => d.parameters.length) = some 1) := by decide +kernel
theorem kl_27_1 : ((js_y 27).cls ≠ "java/lang/invoke/MethodHandle" ∧ (js_y 27).cls ≠ "java/lang/invoke/VarHandle" ∧ (parseMethodDescriptor (js_y 27).desc).map (fun d => d.parameters.length) = some 1) := by decide +kernel
theorem kl_28_1 : ((js_y 28).cls ≠ "java/lang/invoke/MethodHandle" ∧ (js_y 28).cls ≠ "java/lang/invoke/VarHandle" ∧ (parseMethodDescriptor (js_y 28).desc).map (fun d => d.parameters.length) = some 1) := by decide +kernel
theorem kl_29_3 : ((js_y 29).cls ≠ "java/lang/invoke/MethodHandle" ∧ (js_y 29).cls ≠ "java/lang/invoke/VarHandle" ∧ (parseMethodDescriptor (js_y 29).desc).map (fun d => d.parameters.length) = some 3) := by decide +kernel
theorem kl_30_1 : ((js_y 30).cls ≠ "java/lang/invoke/MethodHandle" ∧ (js_y 30).cls ≠ "java/lang/invoke/VarHandle" ∧ (parseMethodDescriptor (js_y 30).desc).map (fun d => d.parameters.length) = some 1) := by decide +kernel
theorem kl_31_0 : ((js_y 31).cls ≠ "java/lang/invoke/MethodHandle" ∧ (js_y 31).cls ≠ "java/lang/invoke/VarHandle" ∧ (parseMethodDescriptor (js_y 31).desc).map (fun d => d.parameters.length) = some 0) := by decide +kernel
theorem kl_32_2 : ((js_y 32).cls ≠ "java/lang/invoke/MethodHandle" ∧ (js_y 32).cls ≠ "java/lang/invoke/VarHandle" ∧ (parseMethodDescriptor (js_y 32).desc).map (fun d => d.parameters.length) = some 2) := by decide +kernel
theorem kl_33_2 : ((js_y 33).cls ≠ "java/lang/invoke/MethodHandle" ∧ (js_y 33).cls ≠ "java/lang/invoke/VarHandle" ∧ (parseMethodDescriptor (js_y 33).desc).map (fun d => d.parameters.length) = some 2) := by decide +kernel
theorem kl_34_1 : ((js_y 34).cls ≠ "java/lang/invoke/MethodHandle" ∧ (js_y 34).cls ≠ "java/lang/invoke/VarHandle" ∧ (parseMethodDescriptor (js_y 34).desc).map (fun d => d.parameters.length) = some 1) := by decide +kernel
theorem kl_35_1 : ((js_y 35).cls ≠ "java/lang/invoke/MethodHandle" ∧ (js_y 35).cls ≠ "java/lang/invoke/VarHandle" ∧ (parseMethodDescriptor (js_y 35).desc).map (fun d => d.parameters.length) = some 1) := by decide +kernel
theorem kl_36_2 : ((js_y 36).cls ≠ "java/lang/invoke/MethodHandle" ∧ (js_y 36).cls ≠ "java/lang/invoke/VarHandle" ∧ (parseMethodDescriptor (js_y 36).desc).map (fun d => d.parameters.length) = some 2) := by decide +kernel
theorem kl_37_2 : ((js_y 37).cls ≠ "java/lang/invoke/MethodHandle" ∧ (js_y 37).cls ≠ "java/lang/invoke/VarHandle" ∧ (parseMethodDescriptor (js_y 37).desc).map (fun d => d.parameters.length) = some 2) := by decide +kernel
theorem kl_38_2 : ((js_y 38).cls ≠ "java/lang/invoke/MethodHandle" ∧ (js_y 38).cls ≠ "java/lang/invoke/VarHandle" ∧ (parseMethodDescriptor (js_y 38).desc).map (fun d => d.parameters.length) = some 2) := by decide +kernel
theorem kl_39_2 : ((js_y 39).cls ≠ "java/lang/invoke/MethodHandle" ∧ (js_y 39).cls ≠ "java/lang/invoke/VarHandle" ∧ (parseMethodDescriptor (js_y 39).desc).map (fun d => d.parameters.length) = some 2) := by decide +kernel
theorem kl_40_1 : ((js_y 40).cls ≠ "java/lang/invoke/MethodHandle" ∧ (js_y 40).cls ≠ "java/lang/invoke/VarHandle" ∧ (parseMethodDescriptor (js_y 40).desc).map (fun d => d.parameters.length) = some 1) := by decide +kernel
theorem kl_41_1 : ((js_y 41).cls ≠ "java/lang/invoke/MethodHandle" ∧ (js_y 41).cls ≠ "java/lang/invoke/VarHandle" ∧ (parseMethodDescriptor (js_y 41).desc).map (fun d => d.parameters.length) = some 1) := by decide +kernel
theorem kl_42_0 : ((js_y 42).cls ≠ "java/lang/invoke/MethodHandle" ∧ (js_y 42).cls ≠ "java/lang/invoke/VarHandle" ∧ (parseMethodDescriptor (js_y 42).desc).map (fun d => d.parameters.length) = some 0) := by decide +kernel
theorem kl_43_1 : ((js_y 43).cls ≠ "java/lang/invoke/MethodHandle" ∧ (js_y 43).cls ≠ "java/lang/invoke/VarHandle" ∧ (parseMethodDescriptor (js_y 43).desc).map (fun d => d.parameters.length) = some 1) := by decide +kernel
theorem kl_44_0 : ((js_y 44).cls ≠ "java/lang/invoke/MethodHandle" ∧ (js_y 44).cls ≠ "java/lang/invoke/VarHandle" ∧ (parseMethodDescriptor (js_y 44).desc).map (fun d => d.parameters.length) = some 0) := by decide +kernel
theorem kl_45_0 : ((js_y 45).cls ≠ "java/lang/invoke/MethodHandle" ∧ (js_y 45).cls ≠ "java/lang/invoke/VarHandle" ∧ (parseMethodDescriptor (js_y 45).desc).map (fun d => d.parameters.length) = some 0) := by decide +kernel
theorem kl_46_0 : ((js_y 46).cls ≠ "java/lang/invoke/MethodHandle" ∧ (js_y 46).cls ≠ "java/lang/invoke/VarHandle" ∧ (parseMethodDescriptor (js_y 46).desc).map (fun d => d.parameters.length) = some 0) := by decide +kernel
theorem kl_47_0 : ((js_y 47).cls ≠ "java/lang/invoke/MethodHandle" ∧ (js_y 47).cls ≠ "java/lang/invoke/VarHandle" ∧ (parseMethodDescriptor (js_y 47).desc).map (fun d => d.parameters.length) = some 0) := by decide +kernel
theorem kl_48_0 : ((js_y 48).cls ≠ "java/lang/invoke/MethodHandle" ∧ (js_y 48).cls ≠ "java/lang/invoke/VarHandle" ∧ (parseMethodDescriptor (js_y 48).desc).map (fun d => d.parameters.length) = some 0) := by decide +kernel
theorem kl_49_0 : ((js_y 49).cls ≠ "java/lang/invoke/MethodHandle" ∧ (js_y 49).cls ≠ "java/lang/invoke/VarHandle" ∧ (parseMethodDescriptor (js_y 49).desc).map (fun d => d.parameters.length) = some 0) := by decide +kernel
theorem kl_50_1 : ((js_y 50).cls ≠ "java/lang/invoke/MethodHandle" ∧ (js_y 50).cls ≠ "java/lang/invoke/VarHandle" ∧ (parseMethodDescriptor (js_y 50).desc).map (fun d => d.parameters.length) = some 1) := by decide +kernel
theorem kl_51_0 : ((js_y 51).cls ≠ "java/lang/invoke/MethodHandle" ∧ (js_y 51).cls ≠ "java/lang/invoke/VarHandle" ∧ (parseMethodDescriptor (js_y 51).desc).map (fun d => d.parameters.length) = some 0) := by decide +kernel
theorem kl_52_0 : ((js_y 52).cls ≠ "java/lang/invoke/MethodHandle" ∧ (js_y 52).cls ≠ "java/lang/invoke/VarHandle" ∧ (parseMethodDescriptor (js_y 52).desc).map (fun d => d.parameters.length) = some 0) := by decide +kernel
theorem kl_53_1 : ((js_y 53).cls ≠ "java/lang/invoke/MethodHandle" ∧ (js_y 53).cls ≠ "java/lang/invoke/VarHandle" ∧ (parseMethodDescriptor (js_y 53).desc).map (fun d => d.parameters.length) = some 1) := by decide +kernel
theorem kl_54_0 : ((js_y 54).cls ≠ "java/lang/invoke/MethodHandle" ∧ (js_y 54).cls ≠ "java/lang/invoke/VarHandle" ∧ (parseMethodDescriptor (js_y 54).desc).map (fun d => d.parameters.length) = some 0) := by decide +kernel
theorem kl_55_1 : ((js_y 55).cls ≠ "java/lang/invoke/MethodHandle" ∧ (js_y 55).cls ≠ "java/lang/invoke/VarHandle" ∧ (parseMethodDescriptor (js_y 55).desc).map (fun d => d.parameters.length) = some 1) := by decide +kernel
theorem kl_56_0 : ((js_y 56).cls ≠ "java/lang/invoke/MethodHandle" ∧ (js_y 56).cls ≠ "java/lang/invoke/VarHandle" ∧ (parseMethodDescriptor (js_y 56).desc).map (fun d => d.parameters.length) = some 0) := by decide +kernel
theorem kl_57_1 : ((js_y 57).cls ≠ "java/lang/invoke/MethodHandle" ∧ (js_y 57).cls ≠ "java/lang/invoke/VarHandle" ∧ (parseMethodDescriptor (js_y 57).desc).map (fun d => d.parameters.length) = some 1) := by decide +kernel
theorem kl_58_2 : ((js_y 58).cls ≠ "java/lang/invoke/MethodHandle" ∧ (js_y 58).cls ≠ "java/lang/invoke/VarHandle" ∧ (parseMethodDescriptor (js_y 58).desc).map (fun d => d.parameters.length) = some 2) := by decide +kernel
theorem kl_80_0 : ((js_y 80).cls ≠ "java/lang/invoke/MethodHandle" ∧ (js_y 80).cls ≠ "java/lang/invoke/VarHandle" ∧ (parseMethodDescriptor (js_y 80).desc).map (fun d => d.parameters.length) = some 0) := by decide +kernel
theorem kl_82_0 : ((js_y 82).cls ≠ "java/lang/invoke/MethodHandle" ∧ (js_y 82).cls ≠ "java/lang/invoke/VarHandle" ∧ (parseMethodDescriptor (js_y 82).desc).map (fun d => d.parameters.length) = some 0) := by decide +kernel
theorem kl_83_0 : ((js_y 83).cls ≠ "java/lang/invoke/MethodHandle" ∧ (js_y 83).cls ≠ "java/lang/invoke/VarHandle" ∧ (parseMethodDescriptor (js_y 83).desc).map (fun d => d.parameters.length) = some 0) := by decide +kernel
theorem kl_94_0 : ((js_y 94).cls ≠ "java/lang/invoke/MethodHandle" ∧ (js_y 94).cls ≠ "java/lang/invoke/VarHandle" ∧ (parseMethodDescriptor (js_y 94).desc).map (fun d => d.parameters.length) = some 0) := by decide +kernel
theorem kl_95_0 : ((js_y 95).cls ≠ "java/lang/invoke/MethodHandle" ∧ (js_y 95).cls ≠ "java/lang/invoke/VarHandle" ∧ (parseMethodDescriptor (js_y 95).desc).map (fun d => d.parameters.length) = some 0) := by decide +kernel
theorem kl_97_1 : ((js_y 97).cls ≠ "java/lang/invoke/MethodHandle" ∧ (js_y 97).cls ≠ "java/lang/invoke/VarHandle" ∧ (parseMethodDescriptor (js_y 97).desc).map (fun d => d.parameters.length) = some 1) := by decide +kernel
theorem kl_99_0 : ((js_y 99).cls ≠ "java/lang/invoke/MethodHandle" ∧ (js_y 99).cls ≠ "java/lang/invoke/VarHandle" ∧ (parseMethodDescriptor (js_y 99).desc).map (fun d => d.parameters.length) = some 0) := by decide +kernel
theorem kl_114_1 : ((js_y 114).cls ≠ "java/lang/invoke/MethodHandle" ∧ (js_y 114).cls ≠ "java/lang/invoke/VarHandle" ∧ (parseMethodDescriptor (js_y 114).desc).map (fun d => d.parameters.length) = some 1) := by decide +kernel
theorem kl_115_1 : ((js_y 115).cls ≠ "java/lang/invoke/MethodHandle" ∧ (js_y 115).cls ≠ "java/lang/invoke/VarHandle" ∧ (parseMethodDescriptor (js_y 115).desc).map (fun d => d.parameters.length) = some 1) := by decide +kernel
theorem kl_116_1 : ((js_y 116).cls ≠ "java/lang/invoke/MethodHandle" ∧ (js_y 116).cls ≠ "java/lang/invoke/VarHandle" ∧ (parseMethodDescriptor (js_y 116).desc).map (fun d => d.parameters.length) = some 1) := by decide +kernel
theorem kl_117_1 : ((js_y 117).cls ≠ "java/lang/invoke/MethodHandle" ∧ (js_y 117).cls ≠ "java/lang/invoke/VarHandle" ∧ (parseMethodDescriptor (js_y 117).desc).map (fun d => d.parameters.length) = some 1) := by decide +kernel
theorem kl_118_2 : ((js_y 118).cls ≠ "java/lang/invoke/MethodHandle" ∧ (js_y 118).cls ≠ "java/lang/invoke/VarHandle" ∧ (parseMethodDescriptor (js_y 118).desc).map (fun d => d.parameters.length) = some 2) := by decide +kernel
theorem kl_119_2 : ((js_y 119).cls ≠ "java/lang/invoke/MethodHandle" ∧ (js_y 119).cls ≠ "java/lang/invoke/VarHandle" ∧ (parseMethodDescriptor (js_y 119).desc).map (fun d => d.parameters.length) = some 2) := by decide +kernel
theorem kl_120_1 : ((js_y 120).cls ≠ "java/lang/invoke/MethodHandle" ∧ (js_y 120).cls ≠ "java/lang/invoke/VarHandle" ∧ (parseMethodDescriptor (js_y 120).desc).map (fun d => d.parameters.length) = some 1) := by decide +kernel
theorem kl_121_2 : ((js_y 121).cls ≠ "java/lang/invoke/MethodHandle" ∧ (js_y 121).cls ≠ "java/lang/invoke/VarHandle" ∧ (parseMethodDescriptor (js_y 121).desc).map (fun d => d.parameters.length) = some 2) := by decide +kernel
theorem kl_122_1 : ((js_y 122).cls ≠ "java/lang/invoke/MethodHandle" ∧ (js_y 122).cls ≠ "java/lang/invoke/VarHandle" ∧ (parseMethodDescriptor (js_y 122).desc).map (fun d => d.parameters.length) = some 1) := by decide +kernel
theorem kl_123_1 : ((js_y 123).cls ≠ "java/lang/invoke/MethodHandle" ∧ (js_y 123).cls ≠ "java/lang/invoke/VarHandle" ∧ (parseMethodDescriptor (js_y 123).desc).map (fun d => d.parameters.length) = some 1) := by decide +kernel
theorem kl_124_1 : ((js_y 124).cls ≠ "java/lang/invoke/MethodHandle" ∧ (js_y 124).cls ≠ "java/lang/invoke/VarHandle" ∧ (parseMethodDescriptor (js_y 124).desc).map (fun d => d.parameters.length) = some 1) := by decide +kernel
theorem kl_125_1 : ((js_y 125).cls ≠ "java/lang/invoke/MethodHandle" ∧ (js_y 125).cls ≠ "java/lang/invoke/VarHandle" ∧ (parseMethodDescriptor (js_y 125).desc).map (fun d => d.parameters.length) = some 1) := by decide +kernel
theorem kl_126_2 : ((js_y 126).cls ≠ "java/lang/invoke/MethodHandle" ∧ (js_y 126).cls ≠ "java/lang/invoke/VarHandle" ∧ (parseMethodDescriptor (js_y 126).desc).map (fun d => d.parameters.length) = some 2) := by decide +kernel
theorem kl_127_1 : ((js_y 127).cls ≠ "java/lang/invoke/MethodHandle" ∧ (js_y 127).cls ≠ "java/lang/invoke/VarHandle" ∧ (parseMethodDescriptor (js_y 127).desc).map (fun d => d.parameters.length) = some 1) := by decide +kernel
theorem kl_128_1 : ((js_y 128).cls ≠ "java/lang/invoke/MethodHandle" ∧ (js_y 128).cls ≠ "java/lang/invoke/VarHandle" ∧ (parseMethodDescriptor (js_y 128).desc).map (fun d => d.parameters.length) = some 1) := by decide +kernel
theorem kl_129_1 : ((js_y 129).cls ≠ "java/lang/invoke/MethodHandle" ∧ (js_y 129).cls ≠ "java/lang/invoke/VarHandle" ∧ (parseMethodDescriptor (js_y 129).desc).map (fun d => d.parameters.length) = some 1) := by decide +kernel
theorem kl_130_1 : ((js_y 130).cls ≠ "java/lang/invoke/MethodHandle" ∧ (js_y 130).cls ≠ "java/lang/invoke/VarHandle" ∧ (parseMethodDescriptor (js_y 130).desc).map (fun d => d.parameters.length) = some 1) := by decide +kernel
theorem kl_131_1 : ((js_y 131).cls ≠ "java/lang/invoke/MethodHandle" ∧ (js_y 131).cls ≠ "java/lang/invoke/VarHandle" ∧ (parseMethodDescriptor (js_y 131).desc).map (fun d => d.parameters.length) = some 1) := by decide +kernel
theorem kl_132_1 : ((js_y 132).cls ≠ "java/lang/invoke/MethodHandle" ∧ (js_y 132).cls ≠ "java/lang/invoke/VarHandle" ∧ (parseMethodDescriptor (js_y 132).desc).map (fun d => d.parameters.length) = some 1) := by decide +kernel
theorem kl_135_3 : ((js_y 135).cls ≠ "java/lang/invoke/MethodHandle" ∧ (js_y 135).cls ≠ "java/lang/invoke/VarHandle" ∧ (parseMethodDescriptor (js_y 135).desc).map (fun d => d.parameters.length) = some 3) := by decide +kernel
theorem kl_136_0 : ((js_y 136).cls ≠ "java/lang/invoke/MethodHandle" ∧ (js_y 136).cls ≠ "java/lang/invoke/VarHandle" ∧ (parseMethodDescriptor (js_y 136).desc).map (fun d => d.parameters.length) = some 0) := by decide +kernel
theorem kl_137_1 : ((js_y 137).cls ≠ "java/lang/invoke/MethodHandle" ∧ (js_y 137).cls ≠ "java/lang/invoke/VarHandle" ∧ (parseMethodDescriptor (js_y 137).desc).map (fun d => d.parameters.length) = some 1) := by decide +kernel
theorem kl_138_1 : ((js_y 138).cls ≠ "java/lang/invoke/MethodHandle" ∧ (js_y 138).cls ≠ "java/lang/invoke/VarHandle" ∧ (parseMethodDescriptor (js_y 138).desc).map (fun d => d.parameters.length) = some 1) := by decide +kernel
theorem kl_139_1 : ((js_y 139).cls ≠ "java/lang/invoke/MethodHandle" ∧ (js_y 139).cls ≠ "java/lang/invoke/VarHandle" ∧ (parseMethodDescriptor (js_y 139).desc).map (fun d => d.parameters.length) = some 1) := by decide +kernel
theorem kl_140_2 : ((js_y 140).cls ≠ "java/lang/invoke/MethodHandle" ∧ (js_y 140).cls ≠ "java/lang/invoke/VarHandle" ∧ (parseMethodDescriptor (js_y 140).desc).map (fun d => d.parameters.length) = some 2) := by decide +kernel
theorem kl_141_3 : ((js_y 141).cls ≠ "java/lang/invoke/MethodHandle" ∧ (js_y 141).cls ≠ "java/lang/invoke/VarHandle" ∧ (parseMethodDescriptor (js_y 141).desc).map (fun d => d.parameters.length) = some 3) := by decide +kernel
theorem kl_142_1 : ((js_y 142).cls ≠ "java/lang/invoke/MethodHandle" ∧ (js_y 142).cls ≠ "java/lang/invoke/VarHandle" ∧ (parseMethodDescriptor (js_y 142).desc).map (fun d => d.parameters.length) = some 1) := by decide +kernel
theorem kl_143_1 : ((js_y 143).cls ≠ "java/lang/invoke/MethodHandle" ∧ (js_y 143).cls ≠ "java/lang/invoke/VarHandle" ∧ (parseMethodDescriptor (js_y 143).desc).map (fun d => d.parameters.length) = some 1) := by decide +kernel
theorem kl_144_1 : ((js_y 144).cls ≠ "java/lang/invoke/MethodHandle" ∧ (js_y 144).cls ≠ "java/lang/invoke/VarHandle" ∧ (parseMethodDescriptor (js_y 144).desc).map (fun d => d.parameters.length) = some 1) := by decide +kernel
theorem kl_145_1 : ((js_y 145).cls ≠ "java/lang/invoke/MethodHandle" ∧ (js_y 145).cls ≠ "java/lang/invoke/VarHandle" ∧ (parseMethodDescriptor (js_y 145).desc).map (fun d => d.parameters.length) = some 1) := by decide +kernel
theorem kl_146_1 : ((js_y 146).cls ≠ "java/lang/invoke/MethodHandle" ∧ (js_y 146).cls ≠ "java/lang/invoke/VarHandle" ∧ (parseMethodDescriptor (js_y 146).desc).map (fun d => d.parameters.length) = some 1) := by decide +kernel
theorem kl_147_1 : ((js_y 147).cls ≠ "java/lang/invoke/MethodHandle" ∧ (js_y 147).cls ≠ "java/lang/invoke/VarHandle" ∧ (parseMethodDescriptor (js_y 147).desc).map (fun d => d.parameters.length) = some 1) := by decide +kernel
theorem kl_148_1 : ((js_y 148).cls ≠ "java/lang/invoke/MethodHandle" ∧ (js_y 148).cls ≠ "java/lang/invoke/VarHandle" ∧ (parseMethodDescriptor (js_y 148).desc).map (fun d => d.parameters.length) = some 1) := by decide +kernel
theorem kl_149_2 : ((js_y 149).cls ≠ "java/lang/invoke/MethodHandle" ∧ (js_y 149).cls ≠ "java/lang/invoke/VarHandle" ∧ (parseMethodDescriptor (js_y 149).desc).map (fun d => d.parameters.length) = some 2) := by decide +kernel
theorem kl_150_1 : ((js_y 150).cls ≠ "java/lang/invoke/MethodHandle" ∧ (js_y 150).cls ≠ "java/lang/invoke/VarHandle" ∧ (parseMethodDescriptor (js_y 150).desc).map (fun d => d.parameters.length) = some 1) := by decide +kernel
theorem kl_151_2 : ((js_y 151).cls ≠ "java/lang/invoke/MethodHandle" ∧ (js_y 151).cls ≠ "java/lang/invoke/VarHandle" ∧ (parseMethodDescriptor (js_y 151).desc).map (fun d => d.parameters.length) = some 2) := by decide +kernel
theorem kl_152_2 : ((js_y 152).cls ≠ "java/lang/invoke/MethodHandle" ∧ (js_y 152).cls ≠ "java/lang/invoke/VarHandle" ∧ (parseMethodDescriptor (js_y 152).desc).map (fun d => d.parameters.length) = some 2) := by decide +kernel
theorem kl_153_3 : ((js_y 153).cls ≠ "java/lang/invoke/MethodHandle" ∧ (js_y 153).cls ≠ "java/lang/invoke/VarHandle" ∧ (parseMethodDescriptor (js_y 153).desc).map (fun d => d.parameters.length) = some 3) := by decide +kernel
theorem kl_154_2 : ((js_y 154).cls ≠ "java/lang/invoke/MethodHandle" ∧ (js_y 154).cls ≠ "java/lang/invoke/VarHandle" ∧ (parseMethodDescriptor (js_y 154).desc).map (fun d => d.parameters.length) = some 2) := by decide +kernel
theorem kl_155_2 : ((js_y 155).cls ≠ "java/lang/invoke/MethodHandle" ∧ (js_y 155).cls ≠ "java/lang/invoke/VarHandle" ∧ (parseMethodDescriptor (js_y 155).desc).map (fun d => d.parameters.length) = some 2) := by decide +kernel
theorem kl_156_2 : ((js_y 156).cls ≠ "java/lang/invoke/MethodHandle" ∧ (js_y 156).cls ≠ "java/lang/invoke/VarHandle" ∧ (parseMethodDescriptor (js_y 156).desc).map (fun d => d.parameters.length) = some 2) := by decide +kernel
theorem kl_157_1 : ((js_y 157).cls ≠ "java/lang/invoke/MethodHandle" ∧ (js_y 157).cls ≠ "java/lang/invoke/VarHandle" ∧ (parseMethodDescriptor (js_y 157).desc).map (fun d => d.parameters.length) = some 1) := by decide +kernel
theorem kl_158_1 : ((js_y 158).cls ≠ "java/lang/invoke/MethodHandle" ∧ (js_y 158).cls ≠ "java/lang/invoke/VarHandle" ∧ (parseMethodDescriptor (js_y 158).desc).map (fun d => d.parameters.length) = some 1) := by decide +kernel
theorem kl_159_1 : ((js_y 159).cls ≠ "java/lang/invoke/MethodHandle" ∧ (js_y 159).cls ≠ "java/lang/invoke/VarHandle" ∧ (parseMethodDescriptor (js_y 159).desc).map (fun d => d.parameters.length) = some 1) := by decide +kernel
theorem kl_160_5 : ((js_y 160).cls ≠ "java/lang/invoke/MethodHandle" ∧ (js_y 160).cls ≠ "java/lang/invoke/VarHandle" ∧ (parseMethodDescriptor (js_y 160).desc).map (fun d => d.parameters.length) = some 5) := by decide +kernel
theorem kl_162_1 : ((js_y 162).cls ≠ "java/lang/invoke/MethodHandle" ∧ (js_y 162).cls ≠ "java/lang/invoke/VarHandle" ∧ (parseMethodDescriptor (js_y 162).desc).map (fun d => d.parameters.length) = some 1) := by decide +kernel
theorem kl_174_2 : ((js_y 174).cls ≠ "java/lang/invoke/MethodHandle" ∧ (js_y 174).cls ≠ "java/lang/invoke/VarHandle" ∧ (parseMethodDescriptor (js_y 174).desc).map (fun d => d.parameters.length) = some 2) := by decide +kernel
theorem kl_175_3 : ((js_y 175).cls ≠ "java/lang/invoke/MethodHandle" ∧ (js_y 175).cls ≠ "java/lang/invoke/VarHandle" ∧ (parseMethodDescriptor (js_y 175).desc).map (fun d => d.parameters.length) = some 3) := by decide +kernel
theorem kl_177_1 : ((js_y 177).cls ≠ "java/lang/invoke/MethodHandle" ∧ (js_y 177).cls ≠ "java/lang/invoke/VarHandle" ∧ (parseMethodDescriptor (js_y 177).desc).map (fun d => d.parameters.length) = some 1) := by decide +kernel
theorem kl_179_2 : ((js_y 179).cls ≠ "java/lang/invoke/MethodHandle" ∧ (js_y 179).cls ≠ "java/lang/invoke/VarHandle" ∧ (parseMethodDescriptor (js_y 179).desc).map (fun d => d.parameters.length) = some 2) := by decide +kernel
theorem kl_181_2 : ((js_y 181).cls ≠ "java/lang/invoke/MethodHandle" ∧ (js_y 181).cls ≠ "java/lang/invoke/VarHandle" ∧ (parseMethodDescriptor (js_y 181).desc).map (fun d => d.parameters.length) = some 2) := by decide +kernel
theorem kl_183_3 : ((js_y 183).cls ≠ "java/lang/invoke/MethodHandle" ∧ (js_y 183).cls ≠ "java/lang/invoke/VarHandle" ∧ (parseMethodDescriptor (js_y 183).desc).map (fun d => d.parameters.length) = some 3) := by decide +kernel
theorem kl_184_2 : ((js_y 184).cls ≠ "java/lang/invoke/MethodHandle" ∧ (js_y 184).cls ≠ "java/lang/invoke/VarHandle" ∧ (parseMethodDescriptor (js_y 184).desc).map (fun d => d.parameters.length) = some 2) := by decide +kernel
theorem kl_185_2 : ((js_y 185).cls ≠ "java/lang/invoke/MethodHandle" ∧ (js_y 185).cls ≠ "java/lang/invoke/VarHandle" ∧ (parseMethodDescriptor (js_y 185).desc).map (fun d => d.parameters.length) = some 2) := by decide +kernel
theorem kl_186_3 : ((js_y 186).cls ≠ "java/lang/invoke/MethodHandle" ∧ (js_y 186).cls ≠ "java/lang/invoke/VarHandle" ∧ (parseMethodDescriptor (js_y 186).desc).map (fun d => d.parameters.length) = some 3) := by decide +kernel
theorem kl_187_1 : ((js_y 187).cls ≠ "java/lang/invoke/MethodHandle" ∧ (js_y 187).cls ≠ "java/lang/invoke/VarHandle" ∧ (parseMethodDescriptor (js_y 187).desc).map (fun d => d.parameters.length) = some 1) := by decide +kernel
theorem kl_188_2 : ((js_y 188).cls ≠ "java/lang/invoke/MethodHandle" ∧ (js_y 188).cls ≠ "java/lang/invoke/VarHandle" ∧ (parseMethodDescriptor (js_y 188).desc).map (fun d => d.parameters.length) = some 2) := by decide +kernel
theorem kl_189_2 : ((js_y 189).cls ≠ "java/lang/invoke/MethodHandle" ∧ (js_y 189).cls ≠ "java/lang/invoke/VarHandle" ∧ (parseMethodDescriptor (js_y 189).desc).map (fun d => d.parameters.length) = some 2) := by decide +kernel
theorem kl_190_2 : ((js_y 190).cls ≠ "java/lang/invoke/MethodHandle" ∧ (js_y 190).cls ≠ "java/lang/invoke/VarHandle" ∧ (parseMethodDescriptor (js_y 190).desc).map (fun d => d.parameters.length) = some 2) := by decide +kernel
theorem kl_192_0 : ((js_y 192).cls ≠ "java/lang/invoke/MethodHandle" ∧ (js_y 192).cls ≠ "java/lang/invoke/VarHandle" ∧ (parseMethodDescriptor (js_y 192).desc).map (fun d => d.parameters.length) = some 0) := by decide +kernel
theorem kl_193_0 : ((js_y 193).cls ≠ "java/lang/invoke/MethodHandle" ∧ (js_y 193).cls ≠ "java/lang/invoke/VarHandle" ∧ (parseMethodDescriptor (js_y 193).desc).map (fun d => d.parameters.length) = some 0) := by decide +kernel
theorem kl_203_0 : ((js_y 203).cls ≠ "java/lang/invoke/MethodHandle" ∧ (js_y 203).cls ≠ "java/lang/invoke/VarHandle" ∧ (parseMethodDescriptor (js_y 203).desc).map (fun d => d.parameters.length) = some 0) := by decide +kernel
theorem kl_211_1 : ((js_y 211).cls ≠ "java/lang/invoke/MethodHandle" ∧ (js_y 211).cls ≠ "java/lang/invoke/VarHandle" ∧ (parseMethodDescriptor (js_y 211).desc).map (fun d => d.parameters.length) = some 1) := by decide +kernel
theorem kl_212_1 : ((js_y 212).cls ≠ "java/lang/invoke/MethodHandle" ∧ (js_y 212).cls ≠ "java/lang/invoke/VarHandle" ∧ (parseMethodDescriptor (js_y 212).desc).map (fun d => d.parameters.length) = some 1) := by decide +kernel
theorem kl_213_0 : ((js_y 213).cls ≠ "java/lang/invoke/MethodHandle" ∧ (js_y 213).cls ≠ "java/lang/invoke/VarHandle" ∧ (parseMethodDescriptor (js_y 213).desc).map (fun d => d.parameters.length) = some 0) := by decide +kernel
theorem kl_218_0 : ((js_y 218).cls ≠ "java/lang/invoke/MethodHandle" ∧ (js_y 218).cls ≠ "java/lang/invoke/VarHandle" ∧ (parseMethodDescriptor (js_y 218).desc).map (fun d => d.parameters.length) = some 0) := by decide +kernel
theorem kl_222_1 : ((js_y 222).cls ≠ "java/lang/invoke/MethodHandle" ∧ (js_y 222).cls ≠ "java/lang/invoke/VarHandle" ∧ (parseMethodDescriptor (js_y 222).desc).map (fun d => d.parameters.length) = some 1) := by decide +kernel
theorem kl_227_1 : ((js_y 227).cls ≠ "java/lang/invoke/MethodHandle" ∧ (js_y 227).cls ≠ "java/lang/invoke/VarHandle" ∧ (parseMethodDescriptor (js_y 227).desc).map (fun d => d.parameters.length) = some 1) := by decide +kernel
theorem kl_228_1 : ((js_y 228).cls ≠ "java/lang/invoke/MethodHandle" ∧ (js_y 228).cls ≠ "java/lang/invoke/VarHandle" ∧ (parseMethodDescriptor (js_y 228).desc).map (fun d => d.parameters.length) = some 1) := by decide +kernel
theorem kl_229_1 : ((js_y 229).cls ≠ "java/lang/invoke/MethodHandle" ∧ (js_y 229).cls ≠ "java/lang/invoke/VarHandle" ∧ (parseMethodDescriptor (js_y 229).desc).map (fun d => d.parameters.length) = some 1) := by decide +kernel
theorem kl_230_1 : ((js_y 230).cls ≠ "java/lang/invoke/MethodHandle" ∧ (js_y 230).cls ≠ "java/lang/invoke/VarHandle" ∧ (parseMethodDescriptor (js_y 230).desc).map (fun d => d.parameters.length) = some 1) := by decide +kernel
theorem kl_231_0 : ((js_y 231).cls ≠ "java/lang/invoke/MethodHandle" ∧ (js_y 231).cls ≠ "java/lang/invoke/VarHandle" ∧ (parseMethodDescriptor (js_y 231).desc).map (fun d => d.parameters.length) = some 0) := by decide +kernel
theorem kl_232_0 : ((js_y 232).cls ≠ "java/lang/invoke/MethodHandle" ∧ (js_y 232).cls ≠ "java/lang/invoke/VarHandle" ∧ (parseMethodDescriptor (js_y 232).desc).map (fun d => d.parameters.length) = some 0) := by decide +kernel
theorem kl_233_1 : ((js_y 233).cls ≠ "java/lang/invoke/MethodHandle" ∧ (js_y 233).cls ≠ "java/lang/invoke/VarHandle" ∧ (parseMethodDescriptor (js_y 233).desc).map (fun d => d.parameters.length) = some 1) := by decide +kernel
theorem kl_241_0 : ((js_y 241).cls ≠ "java/lang/invoke/MethodHandle" ∧ (js_y 241).cls ≠ "java/lang/invoke/VarHandle" ∧ (parseMethodDescriptor (js_y 241).desc).map (fun d => d.parameters.length) = some 0) := by decide +kernel
theorem kl_242_1 : ((js_y 242).cls ≠ "java/lang/invoke/MethodHandle" ∧ (js_y 242).cls ≠ "java/lang/invoke/VarHandle" ∧ (parseMethodDescriptor (js_y 242).desc).map (fun d => d.parameters.length) = some 1) := by decide +kernel
theorem kl_243_1 : ((js_y 243).cls ≠ "java/lang/invoke/MethodHandle" ∧ (js_y 243).cls ≠ "java/lang/invoke/VarHandle" ∧ (parseMethodDescriptor (js_y 243).desc).map (fun d => d.parameters.length) = some 1) := by decide +kernel
theorem kl_244_1 : ((js_y 244).cls ≠ "java/lang/invoke/MethodHandle" ∧ (js_y 244).cls ≠ "java/lang/invoke/VarHandle" ∧ (parseMethodDescriptor (js_y 244).desc).map (fun d => d.parameters.length) = some 1) := by decide +kernel
theorem kl_245_1 : ((js_y 245).cls ≠ "java/lang/invoke/MethodHandle" ∧ (js_y 245).cls ≠ "java/lang/invoke/VarHandle" ∧ (parseMethodDescriptor (js_y 245).desc).map (fun d => d.parameters.length) = some 1) := by decide +kernel
theorem kl_246_2 : ((js_y 246).cls ≠ "java/lang/invoke/MethodHandle" ∧ (js_y 246).cls ≠ "java/lang/invoke/VarHandle" ∧ (parseMethodDescriptor (js_y 246).desc).map (fun d => d.parameters.length) = some 2) := by decide +kernel
theorem kl_247_2 : ((js_y 247).cls ≠ "java/lang/invoke/MethodHandle" ∧ (js_y 247).cls ≠ "java/lang/invoke/VarHandle" ∧ (parseMethodDescriptor (js_y 247).desc).map (fun d => d.parameters.length) = some 2) := by decide +kernel
theorem kl_248_0 : ((js_y 248).cls ≠ "java/lang/invoke/MethodHandle" ∧ (js_y 248).cls ≠ "java/lang/invoke/VarHandle" ∧ (parseMethodDescriptor (js_y 248).desc).map (fun d => d.parameters.length) = some 0) := by decide +kernel
theorem kl_249_1 : ((js_y 249).cls ≠ "java/lang/invoke/MethodHandle" ∧ (js_y 249).cls ≠ "java/lang/invoke/VarHandle" ∧ (parseMethodDescriptor (js_y 249).desc).map (fun d => d.parameters.length) = some 1) := by decide +kernel
theorem kl_250_0 : ((js_y 250).cls ≠ "java/lang/invoke/MethodHandle" ∧ (js_y 250).cls ≠ "java/lang/invoke/VarHandle" ∧ (parseMethodDescriptor (js_y 250).desc).map (fun d => d.parameters.length) = some 0) := by decide +kernel
theorem kl_251_0 : ((js_y 251).cls ≠ "java/lang/invoke/MethodHandle" ∧ (js_y 251).cls ≠ "java/lang/invoke/VarHandle" ∧ (parseMethodDescriptor (js_y 251).desc).map (fun d => d.parameters.length) = some 0) := by decide +kernel
theorem kl_252_2 : ((js_y 252).cls ≠ "java/lang/invoke/MethodHandle" ∧ (js_y 252).cls ≠ "java/lang/invoke/VarHandle" ∧ (parseMethodDescriptor (js_y 252).desc).map (fun d => d.parameters.length) = some 2) := by decide +kernel
theorem kl_253_2 : ((js_y 253).cls ≠ "java/lang/invoke/MethodHandle" ∧ (js_y 253).cls ≠ "java/lang/invoke/VarHandle" ∧ (parseMethodDescriptor (js_y 253).desc).map (fun d => d.parameters.length) = some 2) := by decide +kernel
theorem kl_254_3 : ((js_y 254).cls ≠ "java/lang/invoke/MethodHandle" ∧ (js_y 254).cls ≠ "java/lang/invoke/VarHandle" ∧ (parseMethodDescriptor (js_y 254).desc).map (fun d => d.parameters.length) = some 3) := by decide +kernel
theorem kw_68 : (Jvm.Cond.initialized "MosaicCatalogue") ∈ js_ws := js_ws_of 68 (by decide +kernel) (by decide +kernel)
theorem kw_87 : (Jvm.Cond.initialized "java/lang/Math") ∈ js_ws := js_ws_of 87 (by decide +kernel) (by decide +kernel)
theorem kw_93 : (Jvm.Cond.initialized "java/lang/Long") ∈ js_ws := js_ws_of 93 (by decide +kernel) (by decide +kernel)
theorem kw_89 : (Jvm.Cond.initialized "java/lang/String") ∈ js_ws := js_ws_of 89 (by decide +kernel) (by decide +kernel)
theorem kw_91 : (Jvm.Cond.initialized "java/lang/Integer") ∈ js_ws := js_ws_of 91 (by decide +kernel) (by decide +kernel)
theorem kw_76 : (Jvm.Cond.initialized "java/lang/Enum") ∈ js_ws := js_ws_of 76 (by decide +kernel) (by decide +kernel)
theorem kw_78 : (Jvm.Cond.initialized "MosaicCatalogueModel") ∈ js_ws := js_ws_of 78 (by decide +kernel) (by decide +kernel)
theorem kw_96 : (Jvm.Cond.initialized "java/lang/StringLatin1") ∈ js_ws := js_ws_of 96 (by decide +kernel) (by decide +kernel)
theorem kw_97 : (Jvm.Cond.initialized "jdk/internal/util/Preconditions") ∈ js_ws := js_ws_of 97 (by decide +kernel) (by decide +kernel)
theorem kk_0_20 : js_lk 0 20 0 := ⟨kc_20, kw_70, kl_20_0, Nat.le_of_ble_eq_true rfl, Nat.le_of_ble_eq_true rfl⟩
theorem kk_1_21 : js_lk 1 21 0 := ⟨kc_21, kw_70, kl_21_0, Nat.le_of_ble_eq_true rfl, Nat.le_of_ble_eq_true rfl⟩
theorem kk_1_23 : js_lk 1 23 1 := ⟨kc_23, kw_70, kl_23_1, Nat.le_of_ble_eq_true rfl, Nat.le_of_ble_eq_true rfl⟩
theorem kk_3_2 : js_lk 3 2 1 := ⟨kc_2, kw_69, kl_2_1, Nat.le_of_ble_eq_true rfl, Nat.le_of_ble_eq_true rfl⟩
theorem kk_4_21 : js_lk 4 21 0 := ⟨kc_21, kw_70, kl_21_0, Nat.le_of_ble_eq_true rfl, Nat.le_of_ble_eq_true rfl⟩
theorem kk_5_21 : js_lk 5 21 0 := ⟨kc_21, kw_70, kl_21_0, Nat.le_of_ble_eq_true rfl, Nat.le_of_ble_eq_true rfl⟩
theorem kk_6_126 : js_lk 6 126 2 := ⟨kc_126, kw_68, kl_126_2, Nat.le_of_ble_eq_true rfl, Nat.le_of_ble_eq_true rfl⟩
theorem kk_6_127 : js_lk 6 127 1 := ⟨kc_127, kw_68, kl_127_1, Nat.le_of_ble_eq_true rfl, Nat.le_of_ble_eq_true rfl⟩
theorem kk_7_2 : js_lk 7 2 1 := ⟨kc_2, kw_69, kl_2_1, Nat.le_of_ble_eq_true rfl, Nat.le_of_ble_eq_true rfl⟩
theorem kk_7_21 : js_lk 7 21 0 := ⟨kc_21, kw_70, kl_21_0, Nat.le_of_ble_eq_true rfl, Nat.le_of_ble_eq_true rfl⟩
theorem kk_8_3 : js_lk 8 3 1 := ⟨kc_3, kw_69, kl_3_1, Nat.le_of_ble_eq_true rfl, Nat.le_of_ble_eq_true rfl⟩
theorem kk_8_9 : js_lk 8 9 2 := ⟨kc_9, kw_69, kl_9_2, Nat.le_of_ble_eq_true rfl, Nat.le_of_ble_eq_true rfl⟩
theorem kk_8_17 : js_lk 8 17 2 := ⟨kc_17, kw_69, kl_17_2, Nat.le_of_ble_eq_true rfl, Nat.le_of_ble_eq_true rfl⟩
theorem kk_8_21 : js_lk 8 21 0 := ⟨kc_21, kw_70, kl_21_0, Nat.le_of_ble_eq_true rfl, Nat.le_of_ble_eq_true rfl⟩
theorem kk_8_126 : js_lk 8 126 2 := ⟨kc_126, kw_68, kl_126_2, Nat.le_of_ble_eq_true rfl, Nat.le_of_ble_eq_true rfl⟩
theorem kk_10_3 : js_lk 10 3 1 := ⟨kc_3, kw_69, kl_3_1, Nat.le_of_ble_eq_true rfl, Nat.le_of_ble_eq_true rfl⟩
theorem kk_10_17 : js_lk 10 17 2 := ⟨kc_17, kw_69, kl_17_2, Nat.le_of_ble_eq_true rfl, Nat.le_of_ble_eq_true rfl⟩
theorem kk_10_21 : js_lk 10 21 0 := ⟨kc_21, kw_70, kl_21_0, Nat.le_of_ble_eq_true rfl, Nat.le_of_ble_eq_true rfl⟩
theorem kk_11_3 : js_lk 11 3 1 := ⟨kc_3, kw_69, kl_3_1, Nat.le_of_ble_eq_true rfl, Nat.le_of_ble_eq_true rfl⟩
theorem kk_11_126 : js_lk 11 126 2 := ⟨kc_126, kw_68, kl_126_2, Nat.le_of_ble_eq_true rfl, Nat.le_of_ble_eq_true rfl⟩
theorem kk_12_3 : js_lk 12 3 1 := ⟨kc_3, kw_69, kl_3_1, Nat.le_of_ble_eq_true rfl, Nat.le_of_ble_eq_true rfl⟩
theorem kk_12_9 : js_lk 12 9 2 := ⟨kc_9, kw_69, kl_9_2, Nat.le_of_ble_eq_true rfl, Nat.le_of_ble_eq_true rfl⟩
theorem kk_12_18 : js_lk 12 18 1 := ⟨kc_18, kw_69, kl_18_1, Nat.le_of_ble_eq_true rfl, Nat.le_of_ble_eq_true rfl⟩
theorem kk_12_21 : js_lk 12 21 0 := ⟨kc_21, kw_70, kl_21_0, Nat.le_of_ble_eq_true rfl, Nat.le_of_ble_eq_true rfl⟩
theorem kk_14_13 : js_lk 14 13 2 := ⟨kc_13, kw_69, kl_13_2, Nat.le_of_ble_eq_true rfl, Nat.le_of_ble_eq_true rfl⟩
theorem kk_15_14 : js_lk 15 14 1 := ⟨kc_14, kw_69, kl_14_1, Nat.le_of_ble_eq_true rfl, Nat.le_of_ble_eq_true rfl⟩
theorem kk_16_13 : js_lk 16 13 2 := ⟨kc_13, kw_69, kl_13_2, Nat.le_of_ble_eq_true rfl, Nat.le_of_ble_eq_true rfl⟩
theorem kk_16_22 : js_lk 16 22 1 := ⟨kc_22, kw_70, kl_22_1, Nat.le_of_ble_eq_true rfl, Nat.le_of_ble_eq_true rfl⟩
theorem kk_16_128 : js_lk 16 128 1 := ⟨kc_128, kw_68, kl_128_1, Nat.le_of_ble_eq_true rfl, Nat.le_of_ble_eq_true rfl⟩
theorem kk_17_16 : js_lk 17 16 3 := ⟨kc_16, kw_69, kl_16_3, Nat.le_of_ble_eq_true rfl, Nat.le_of_ble_eq_true rfl⟩
theorem kk_18_16 : js_lk 18 16 3 := ⟨kc_16, kw_69, kl_16_3, Nat.le_of_ble_eq_true rfl, Nat.le_of_ble_eq_true rfl⟩
theorem kk_18_21 : js_lk 18 21 0 := ⟨kc_21, kw_70, kl_21_0, Nat.le_of_ble_eq_true rfl, Nat.le_of_ble_eq_true rfl⟩
theorem kk_25_13 : js_lk 25 13 2 := ⟨kc_13, kw_69, kl_13_2, Nat.le_of_ble_eq_true rfl, Nat.le_of_ble_eq_true rfl⟩
theorem kk_25_16 : js_lk 25 16 3 := ⟨kc_16, kw_69, kl_16_3, Nat.le_of_ble_eq_true rfl, Nat.le_of_ble_eq_true rfl⟩
theorem kk_25_129 : js_lk 25 129 1 := ⟨kc_129, kw_68, kl_129_1, Nat.le_of_ble_eq_true rfl, Nat.le_of_ble_eq_true rfl⟩
theorem kk_26_21 : js_lk 26 21 0 := ⟨kc_21, kw_70, kl_21_0, Nat.le_of_ble_eq_true rfl, Nat.le_of_ble_eq_true rfl⟩
theorem kk_26_25 : js_lk 26 25 2 := ⟨kc_25, kw_73, kl_25_2, Nat.le_of_ble_eq_true rfl, Nat.le_of_ble_eq_true rfl⟩
theorem kk_26_129 : js_lk 26 129 1 := ⟨kc_129, kw_68, kl_129_1, Nat.le_of_ble_eq_true rfl, Nat.le_of_ble_eq_true rfl⟩
theorem kk_27_21 : js_lk 27 21 0 := ⟨kc_21, kw_70, kl_21_0, Nat.le_of_ble_eq_true rfl, Nat.le_of_ble_eq_true rfl⟩
theorem kk_27_25 : js_lk 27 25 2 := ⟨kc_25, kw_73, kl_25_2, Nat.le_of_ble_eq_true rfl, Nat.le_of_ble_eq_true rfl⟩
theorem kk_27_245 : js_lk 27 245 1 := ⟨kc_245, kw_93, kl_245_1, Nat.le_of_ble_eq_true rfl, Nat.le_of_ble_eq_true rfl⟩
theorem kk_27_246 : js_lk 27 246 2 := ⟨kc_246, kw_87, kl_246_2, Nat.le_of_ble_eq_true rfl, Nat.le_of_ble_eq_true rfl⟩
theorem kk_28_4 : js_lk 28 4 0 := ⟨kc_4, kw_69, kl_4_0, Nat.le_of_ble_eq_true rfl, Nat.le_of_ble_eq_true rfl⟩
theorem kk_28_21 : js_lk 28 21 0 := ⟨kc_21, kw_70, kl_21_0, Nat.le_of_ble_eq_true rfl, Nat.le_of_ble_eq_true rfl⟩
theorem kk_28_29 : js_lk 28 29 3 := ⟨kc_29, kw_73, kl_29_3, Nat.le_of_ble_eq_true rfl, Nat.le_of_ble_eq_true rfl⟩
theorem kk_29_13 : js_lk 29 13 2 := ⟨kc_13, kw_69, kl_13_2, Nat.le_of_ble_eq_true rfl, Nat.le_of_ble_eq_true rfl⟩
theorem kk_29_16 : js_lk 29 16 3 := ⟨kc_16, kw_69, kl_16_3, Nat.le_of_ble_eq_true rfl, Nat.le_of_ble_eq_true rfl⟩
theorem kk_29_30 : js_lk 29 30 1 := ⟨kc_30, kw_73, kl_30_1, Nat.le_of_ble_eq_true rfl, Nat.le_of_ble_eq_true rfl⟩
theorem kk_32_13 : js_lk 32 13 2 := ⟨kc_13, kw_69, kl_13_2, Nat.le_of_ble_eq_true rfl, Nat.le_of_ble_eq_true rfl⟩
theorem kk_32_22 : js_lk 32 22 1 := ⟨kc_22, kw_70, kl_22_1, Nat.le_of_ble_eq_true rfl, Nat.le_of_ble_eq_true rfl⟩
theorem kk_32_128 : js_lk 32 128 1 := ⟨kc_128, kw_68, kl_128_1, Nat.le_of_ble_eq_true rfl, Nat.le_of_ble_eq_true rfl⟩
theorem kk_34_33 : js_lk 34 33 2 := ⟨kc_33, kw_72, kl_33_2, Nat.le_of_ble_eq_true rfl, Nat.le_of_ble_eq_true rfl⟩
theorem kk_35_33 : js_lk 35 33 2 := ⟨kc_33, kw_72, kl_33_2, Nat.le_of_ble_eq_true rfl, Nat.le_of_ble_eq_true rfl⟩
theorem kk_35_246 : js_lk 35 246 2 := ⟨kc_246, kw_87, kl_246_2, Nat.le_of_ble_eq_true rfl, Nat.le_of_ble_eq_true rfl⟩
theorem kk_36_21 : js_lk 36 21 0 := ⟨kc_21, kw_70, kl_21_0, Nat.le_of_ble_eq_true rfl, Nat.le_of_ble_eq_true rfl⟩
theorem kk_36_35 : js_lk 36 35 1 := ⟨kc_35, kw_72, kl_35_1, Nat.le_of_ble_eq_true rfl, Nat.le_of_ble_eq_true rfl⟩
theorem kk_36_37 : js_lk 36 37 2 := ⟨kc_37, kw_72, kl_37_2, Nat.le_of_ble_eq_true rfl, Nat.le_of_ble_eq_true rfl⟩
theorem kk_37_21 : js_lk 37 21 0 := ⟨kc_21, kw_70, kl_21_0, Nat.le_of_ble_eq_true rfl, Nat.le_of_ble_eq_true rfl⟩
theorem kk_38_9 : js_lk 38 9 2 := ⟨kc_9, kw_69, kl_9_2, Nat.le_of_ble_eq_true rfl, Nat.le_of_ble_eq_true rfl⟩
theorem kk_38_34 : js_lk 38 34 1 := ⟨kc_34, kw_72, kl_34_1, Nat.le_of_ble_eq_true rfl, Nat.le_of_ble_eq_true rfl⟩
theorem kk_39_21 : js_lk 39 21 0 := ⟨kc_21, kw_70, kl_21_0, Nat.le_of_ble_eq_true rfl, Nat.le_of_ble_eq_true rfl⟩
theorem kk_39_35 : js_lk 39 35 1 := ⟨kc_35, kw_72, kl_35_1, Nat.le_of_ble_eq_true rfl, Nat.le_of_ble_eq_true rfl⟩
theorem kk_39_246 : js_lk 39 246 2 := ⟨kc_246, kw_87, kl_246_2, Nat.le_of_ble_eq_true rfl, Nat.le_of_ble_eq_true rfl⟩
theorem kk_40_15 : js_lk 40 15 1 := ⟨kc_15, kw_69, kl_15_1, Nat.le_of_ble_eq_true rfl, Nat.le_of_ble_eq_true rfl⟩
theorem kk_40_32 : js_lk 40 32 2 := ⟨kc_32, kw_72, kl_32_2, Nat.le_of_ble_eq_true rfl, Nat.le_of_ble_eq_true rfl⟩
theorem kk_40_39 : js_lk 40 39 2 := ⟨kc_39, kw_72, kl_39_2, Nat.le_of_ble_eq_true rfl, Nat.le_of_ble_eq_true rfl⟩
theorem kk_41_32 : js_lk 41 32 2 := ⟨kc_32, kw_72, kl_32_2, Nat.le_of_ble_eq_true rfl, Nat.le_of_ble_eq_true rfl⟩
theorem kk_41_36 : js_lk 41 36 2 := ⟨kc_36, kw_72, kl_36_2, Nat.le_of_ble_eq_true rfl, Nat.le_of_ble_eq_true rfl⟩
theorem kk_41_38 : js_lk 41 38 2 := ⟨kc_38, kw_72, kl_38_2, Nat.le_of_ble_eq_true rfl, Nat.le_of_ble_eq_true rfl⟩
theorem kk_41_40 : js_lk 41 40 1 := ⟨kc_40, kw_72, kl_40_1, Nat.le_of_ble_eq_true rfl, Nat.le_of_ble_eq_true rfl⟩
theorem kk_42_0 : js_lk 42 0 0 := ⟨kc_0, kw_69, kl_0_0, Nat.le_of_ble_eq_true rfl, Nat.le_of_ble_eq_true rfl⟩
theorem kk_43_1 : js_lk 43 1 1 := ⟨kc_1, kw_69, kl_1_1, Nat.le_of_ble_eq_true rfl, Nat.le_of_ble_eq_true rfl⟩
theorem kk_43_44 : js_lk 43 44 0 := ⟨kc_44, kw_71, kl_44_0, Nat.le_of_ble_eq_true rfl, Nat.le_of_ble_eq_true rfl⟩
theorem kk_45_247 : js_lk 45 247 2 := ⟨kc_247, kw_87, kl_247_2, Nat.le_of_ble_eq_true rfl, Nat.le_of_ble_eq_true rfl⟩
theorem kk_48_19 : js_lk 48 19 0 := ⟨kc_19, kw_75, kl_19_0, Nat.le_of_ble_eq_true rfl, Nat.le_of_ble_eq_true rfl⟩
theorem kk_52_53 : js_lk 52 53 1 := ⟨kc_53, kw_74, kl_53_1, Nat.le_of_ble_eq_true rfl, Nat.le_of_ble_eq_true rfl⟩
theorem kk_52_57 : js_lk 52 57 1 := ⟨kc_57, kw_74, kl_57_1, Nat.le_of_ble_eq_true rfl, Nat.le_of_ble_eq_true rfl⟩
theorem kk_53_54 : js_lk 53 54 0 := ⟨kc_54, kw_74, kl_54_0, Nat.le_of_ble_eq_true rfl, Nat.le_of_ble_eq_true rfl⟩
theorem kk_53_56 : js_lk 53 56 0 := ⟨kc_56, kw_74, kl_56_0, Nat.le_of_ble_eq_true rfl, Nat.le_of_ble_eq_true rfl⟩
theorem kk_53_57 : js_lk 53 57 1 := ⟨kc_57, kw_74, kl_57_1, Nat.le_of_ble_eq_true rfl, Nat.le_of_ble_eq_true rfl⟩
theorem kk_53_248 : js_lk 53 248 0 := ⟨kc_248, kw_89, kl_248_0, Nat.le_of_ble_eq_true rfl, Nat.le_of_ble_eq_true rfl⟩
theorem kk_53_249 : js_lk 53 249 1 := ⟨kc_249, kw_89, kl_249_1, Nat.le_of_ble_eq_true rfl, Nat.le_of_ble_eq_true rfl⟩
theorem kk_54_55 : js_lk 54 55 1 := ⟨kc_55, kw_74, kl_55_1, Nat.le_of_ble_eq_true rfl, Nat.le_of_ble_eq_true rfl⟩
theorem kk_54_246 : js_lk 54 246 2 := ⟨kc_246, kw_87, kl_246_2, Nat.le_of_ble_eq_true rfl, Nat.le_of_ble_eq_true rfl⟩
theorem kk_54_248 : js_lk 54 248 0 := ⟨kc_248, kw_89, kl_248_0, Nat.le_of_ble_eq_true rfl, Nat.le_of_ble_eq_true rfl⟩
theorem kk_55_248 : js_lk 55 248 0 := ⟨kc_248, kw_89, kl_248_0, Nat.le_of_ble_eq_true rfl, Nat.le_of_ble_eq_true rfl⟩
theorem kk_55_249 : js_lk 55 249 1 := ⟨kc_249, kw_89, kl_249_1, Nat.le_of_ble_eq_true rfl, Nat.le_of_ble_eq_true rfl⟩
theorem kk_56_57 : js_lk 56 57 1 := ⟨kc_57, kw_74, kl_57_1, Nat.le_of_ble_eq_true rfl, Nat.le_of_ble_eq_true rfl⟩
theorem kk_57_58 : js_lk 57 58 2 := ⟨kc_58, kw_74, kl_58_2, Nat.le_of_ble_eq_true rfl, Nat.le_of_ble_eq_true rfl⟩
theorem kk_58_127 : js_lk 58 127 1 := ⟨kc_127, kw_68, kl_127_1, Nat.le_of_ble_eq_true rfl, Nat.le_of_ble_eq_true rfl⟩
theorem kk_58_131 : js_lk 58 131 1 := ⟨kc_131, kw_68, kl_131_1, Nat.le_of_ble_eq_true rfl, Nat.le_of_ble_eq_true rfl⟩
theorem kk_59_0 : js_lk 59 0 0 := ⟨kc_0, kw_69, kl_0_0, Nat.le_of_ble_eq_true rfl, Nat.le_of_ble_eq_true rfl⟩
theorem kk_59_24 : js_lk 59 24 0 := ⟨kc_24, kw_73, kl_24_0, Nat.le_of_ble_eq_true rfl, Nat.le_of_ble_eq_true rfl⟩
theorem kk_59_31 : js_lk 59 31 0 := ⟨kc_31, kw_72, kl_31_0, Nat.le_of_ble_eq_true rfl, Nat.le_of_ble_eq_true rfl⟩
theorem kk_59_42 : js_lk 59 42 0 := ⟨kc_42, kw_71, kl_42_0, Nat.le_of_ble_eq_true rfl, Nat.le_of_ble_eq_true rfl⟩
theorem kk_59_48 : js_lk 59 48 0 := ⟨kc_48, kw_74, kl_48_0, Nat.le_of_ble_eq_true rfl, Nat.le_of_ble_eq_true rfl⟩
theorem kk_60_6 : js_lk 60 6 5 := ⟨kc_6, kw_69, kl_6_5, Nat.le_of_ble_eq_true rfl, Nat.le_of_ble_eq_true rfl⟩
theorem kk_60_43 : js_lk 60 43 1 := ⟨kc_43, kw_71, kl_43_1, Nat.le_of_ble_eq_true rfl, Nat.le_of_ble_eq_true rfl⟩
theorem kk_60_114 : js_lk 60 114 1 := ⟨kc_114, kw_68, kl_114_1, Nat.le_of_ble_eq_true rfl, Nat.le_of_ble_eq_true rfl⟩
theorem kk_61_7 : js_lk 61 7 1 := ⟨kc_7, kw_69, kl_7_1, Nat.le_of_ble_eq_true rfl, Nat.le_of_ble_eq_true rfl⟩
theorem kk_61_43 : js_lk 61 43 1 := ⟨kc_43, kw_71, kl_43_1, Nat.le_of_ble_eq_true rfl, Nat.le_of_ble_eq_true rfl⟩
theorem kk_61_114 : js_lk 61 114 1 := ⟨kc_114, kw_68, kl_114_1, Nat.le_of_ble_eq_true rfl, Nat.le_of_ble_eq_true rfl⟩
theorem kk_63_4 : js_lk 63 4 0 := ⟨kc_4, kw_69, kl_4_0, Nat.le_of_ble_eq_true rfl, Nat.le_of_ble_eq_true rfl⟩
theorem kk_64_5 : js_lk 64 5 1 := ⟨kc_5, kw_69, kl_5_1, Nat.le_of_ble_eq_true rfl, Nat.le_of_ble_eq_true rfl⟩
theorem kk_65_3 : js_lk 65 3 1 := ⟨kc_3, kw_69, kl_3_1, Nat.le_of_ble_eq_true rfl, Nat.le_of_ble_eq_true rfl⟩
theorem kk_66_116 : js_lk 66 116 1 := ⟨kc_116, kw_68, kl_116_1, Nat.le_of_ble_eq_true rfl, Nat.le_of_ble_eq_true rfl⟩
theorem kk_67_116 : js_lk 67 116 1 := ⟨kc_116, kw_68, kl_116_1, Nat.le_of_ble_eq_true rfl, Nat.le_of_ble_eq_true rfl⟩
theorem kk_68_22 : js_lk 68 22 1 := ⟨kc_22, kw_70, kl_22_1, Nat.le_of_ble_eq_true rfl, Nat.le_of_ble_eq_true rfl⟩
theorem kk_68_116 : js_lk 68 116 1 := ⟨kc_116, kw_68, kl_116_1, Nat.le_of_ble_eq_true rfl, Nat.le_of_ble_eq_true rfl⟩
theorem kk_68_122 : js_lk 68 122 1 := ⟨kc_122, kw_68, kl_122_1, Nat.le_of_ble_eq_true rfl, Nat.le_of_ble_eq_true rfl⟩
theorem kk_69_21 : js_lk 69 21 0 := ⟨kc_21, kw_70, kl_21_0, Nat.le_of_ble_eq_true rfl, Nat.le_of_ble_eq_true rfl⟩
theorem kk_69_116 : js_lk 69 116 1 := ⟨kc_116, kw_68, kl_116_1, Nat.le_of_ble_eq_true rfl, Nat.le_of_ble_eq_true rfl⟩
theorem kk_70_117 : js_lk 70 117 1 := ⟨kc_117, kw_68, kl_117_1, Nat.le_of_ble_eq_true rfl, Nat.le_of_ble_eq_true rfl⟩
theorem kk_71_22 : js_lk 71 22 1 := ⟨kc_22, kw_70, kl_22_1, Nat.le_of_ble_eq_true rfl, Nat.le_of_ble_eq_true rfl⟩
theorem kk_71_244 : js_lk 71 244 1 := ⟨kc_244, kw_91, kl_244_1, Nat.le_of_ble_eq_true rfl, Nat.le_of_ble_eq_true rfl⟩
theorem kk_72_8 : js_lk 72 8 3 := ⟨kc_8, kw_69, kl_8_3, Nat.le_of_ble_eq_true rfl, Nat.le_of_ble_eq_true rfl⟩
theorem kk_72_43 : js_lk 72 43 1 := ⟨kc_43, kw_71, kl_43_1, Nat.le_of_ble_eq_true rfl, Nat.le_of_ble_eq_true rfl⟩
theorem kk_72_114 : js_lk 72 114 1 := ⟨kc_114, kw_68, kl_114_1, Nat.le_of_ble_eq_true rfl, Nat.le_of_ble_eq_true rfl⟩
theorem kk_73_10 : js_lk 73 10 1 := ⟨kc_10, kw_69, kl_10_1, Nat.le_of_ble_eq_true rfl, Nat.le_of_ble_eq_true rfl⟩
theorem kk_73_43 : js_lk 73 43 1 := ⟨kc_43, kw_71, kl_43_1, Nat.le_of_ble_eq_true rfl, Nat.le_of_ble_eq_true rfl⟩
theorem kk_73_114 : js_lk 73 114 1 := ⟨kc_114, kw_68, kl_114_1, Nat.le_of_ble_eq_true rfl, Nat.le_of_ble_eq_true rfl⟩
theorem kk_74_11 : js_lk 74 11 2 := ⟨kc_11, kw_69, kl_11_2, Nat.le_of_ble_eq_true rfl, Nat.le_of_ble_eq_true rfl⟩
theorem kk_74_43 : js_lk 74 43 1 := ⟨kc_43, kw_71, kl_43_1, Nat.le_of_ble_eq_true rfl, Nat.le_of_ble_eq_true rfl⟩
theorem kk_74_114 : js_lk 74 114 1 := ⟨kc_114, kw_68, kl_114_1, Nat.le_of_ble_eq_true rfl, Nat.le_of_ble_eq_true rfl⟩
theorem kk_75_12 : js_lk 75 12 2 := ⟨kc_12, kw_69, kl_12_2, Nat.le_of_ble_eq_true rfl, Nat.le_of_ble_eq_true rfl⟩
theorem kk_75_43 : js_lk 75 43 1 := ⟨kc_43, kw_71, kl_43_1, Nat.le_of_ble_eq_true rfl, Nat.le_of_ble_eq_true rfl⟩
theorem kk_75_114 : js_lk 75 114 1 := ⟨kc_114, kw_68, kl_114_1, Nat.le_of_ble_eq_true rfl, Nat.le_of_ble_eq_true rfl⟩
theorem kk_76_38 : js_lk 76 38 2 := ⟨kc_38, kw_72, kl_38_2, Nat.le_of_ble_eq_true rfl, Nat.le_of_ble_eq_true rfl⟩
theorem kk_76_43 : js_lk 76 43 1 := ⟨kc_43, kw_71, kl_43_1, Nat.le_of_ble_eq_true rfl, Nat.le_of_ble_eq_true rfl⟩
theorem kk_76_114 : js_lk 76 114 1 := ⟨kc_114, kw_68, kl_114_1, Nat.le_of_ble_eq_true rfl, Nat.le_of_ble_eq_true rfl⟩
theorem kk_76_119 : js_lk 76 119 2 := ⟨kc_119, kw_68, kl_119_2, Nat.le_of_ble_eq_true rfl, Nat.le_of_ble_eq_true rfl⟩
theorem kk_76_121 : js_lk 76 121 2 := ⟨kc_121, kw_68, kl_121_2, Nat.le_of_ble_eq_true rfl, Nat.le_of_ble_eq_true rfl⟩
theorem kk_77_41 : js_lk 77 41 1 := ⟨kc_41, kw_72, kl_41_1, Nat.le_of_ble_eq_true rfl, Nat.le_of_ble_eq_true rfl⟩
theorem kk_77_43 : js_lk 77 43 1 := ⟨kc_43, kw_71, kl_43_1, Nat.le_of_ble_eq_true rfl, Nat.le_of_ble_eq_true rfl⟩
theorem kk_77_114 : js_lk 77 114 1 := ⟨kc_114, kw_68, kl_114_1, Nat.le_of_ble_eq_true rfl, Nat.le_of_ble_eq_true rfl⟩
theorem kk_78_118 : js_lk 78 118 2 := ⟨kc_118, kw_68, kl_118_2, Nat.le_of_ble_eq_true rfl, Nat.le_of_ble_eq_true rfl⟩
theorem kk_79_118 : js_lk 79 118 2 := ⟨kc_118, kw_68, kl_118_2, Nat.le_of_ble_eq_true rfl, Nat.le_of_ble_eq_true rfl⟩
theorem kk_80_129 : js_lk 80 129 1 := ⟨kc_129, kw_68, kl_129_1, Nat.le_of_ble_eq_true rfl, Nat.le_of_ble_eq_true rfl⟩
theorem kk_81_127 : js_lk 81 127 1 := ⟨kc_127, kw_68, kl_127_1, Nat.le_of_ble_eq_true rfl, Nat.le_of_ble_eq_true rfl⟩
theorem kk_81_129 : js_lk 81 129 1 := ⟨kc_129, kw_68, kl_129_1, Nat.le_of_ble_eq_true rfl, Nat.le_of_ble_eq_true rfl⟩
theorem kk_82_15 : js_lk 82 15 1 := ⟨kc_15, kw_69, kl_15_1, Nat.le_of_ble_eq_true rfl, Nat.le_of_ble_eq_true rfl⟩
theorem kk_82_129 : js_lk 82 129 1 := ⟨kc_129, kw_68, kl_129_1, Nat.le_of_ble_eq_true rfl, Nat.le_of_ble_eq_true rfl⟩
theorem kk_83_80 : js_lk 83 80 0 := ⟨kc_80, kw_68, kl_80_0, Nat.le_of_ble_eq_true rfl, Nat.le_of_ble_eq_true rfl⟩
theorem kk_84_82 : js_lk 84 82 0 := ⟨kc_82, kw_68, kl_82_0, Nat.le_of_ble_eq_true rfl, Nat.le_of_ble_eq_true rfl⟩
theorem kk_84_245 : js_lk 84 245 1 := ⟨kc_245, kw_93, kl_245_1, Nat.le_of_ble_eq_true rfl, Nat.le_of_ble_eq_true rfl⟩
theorem kk_85_18 : js_lk 85 18 1 := ⟨kc_18, kw_69, kl_18_1, Nat.le_of_ble_eq_true rfl, Nat.le_of_ble_eq_true rfl⟩
theorem kk_86_18 : js_lk 86 18 1 := ⟨kc_18, kw_69, kl_18_1, Nat.le_of_ble_eq_true rfl, Nat.le_of_ble_eq_true rfl⟩
theorem kk_87_16 : js_lk 87 16 3 := ⟨kc_16, kw_69, kl_16_3, Nat.le_of_ble_eq_true rfl, Nat.le_of_ble_eq_true rfl⟩
theorem kk_87_117 : js_lk 87 117 1 := ⟨kc_117, kw_68, kl_117_1, Nat.le_of_ble_eq_true rfl, Nat.le_of_ble_eq_true rfl⟩
theorem kk_87_122 : js_lk 87 122 1 := ⟨kc_122, kw_68, kl_122_1, Nat.le_of_ble_eq_true rfl, Nat.le_of_ble_eq_true rfl⟩
theorem kk_88_17 : js_lk 88 17 2 := ⟨kc_17, kw_69, kl_17_2, Nat.le_of_ble_eq_true rfl, Nat.le_of_ble_eq_true rfl⟩
theorem kk_88_117 : js_lk 88 117 1 := ⟨kc_117, kw_68, kl_117_1, Nat.le_of_ble_eq_true rfl, Nat.le_of_ble_eq_true rfl⟩
theorem kk_89_14 : js_lk 89 14 1 := ⟨kc_14, kw_69, kl_14_1, Nat.le_of_ble_eq_true rfl, Nat.le_of_ble_eq_true rfl⟩
theorem kk_89_119 : js_lk 89 119 2 := ⟨kc_119, kw_68, kl_119_2, Nat.le_of_ble_eq_true rfl, Nat.le_of_ble_eq_true rfl⟩
theorem kk_90_32 : js_lk 90 32 2 := ⟨kc_32, kw_72, kl_32_2, Nat.le_of_ble_eq_true rfl, Nat.le_of_ble_eq_true rfl⟩
theorem kk_90_33 : js_lk 90 33 2 := ⟨kc_33, kw_72, kl_33_2, Nat.le_of_ble_eq_true rfl, Nat.le_of_ble_eq_true rfl⟩
theorem kk_90_116 : js_lk 90 116 1 := ⟨kc_116, kw_68, kl_116_1, Nat.le_of_ble_eq_true rfl, Nat.le_of_ble_eq_true rfl⟩
theorem kk_90_118 : js_lk 90 118 2 := ⟨kc_118, kw_68, kl_118_2, Nat.le_of_ble_eq_true rfl, Nat.le_of_ble_eq_true rfl⟩
theorem kk_90_120 : js_lk 90 120 1 := ⟨kc_120, kw_68, kl_120_1, Nat.le_of_ble_eq_true rfl, Nat.le_of_ble_eq_true rfl⟩
theorem kk_90_123 : js_lk 90 123 1 := ⟨kc_123, kw_68, kl_123_1, Nat.le_of_ble_eq_true rfl, Nat.le_of_ble_eq_true rfl⟩
theorem kk_90_126 : js_lk 90 126 2 := ⟨kc_126, kw_68, kl_126_2, Nat.le_of_ble_eq_true rfl, Nat.le_of_ble_eq_true rfl⟩
theorem kk_91_32 : js_lk 91 32 2 := ⟨kc_32, kw_72, kl_32_2, Nat.le_of_ble_eq_true rfl, Nat.le_of_ble_eq_true rfl⟩
theorem kk_91_34 : js_lk 91 34 1 := ⟨kc_34, kw_72, kl_34_1, Nat.le_of_ble_eq_true rfl, Nat.le_of_ble_eq_true rfl⟩
theorem kk_91_116 : js_lk 91 116 1 := ⟨kc_116, kw_68, kl_116_1, Nat.le_of_ble_eq_true rfl, Nat.le_of_ble_eq_true rfl⟩
theorem kk_91_118 : js_lk 91 118 2 := ⟨kc_118, kw_68, kl_118_2, Nat.le_of_ble_eq_true rfl, Nat.le_of_ble_eq_true rfl⟩
theorem kk_91_120 : js_lk 91 120 1 := ⟨kc_120, kw_68, kl_120_1, Nat.le_of_ble_eq_true rfl, Nat.le_of_ble_eq_true rfl⟩
theorem kk_91_123 : js_lk 91 123 1 := ⟨kc_123, kw_68, kl_123_1, Nat.le_of_ble_eq_true rfl, Nat.le_of_ble_eq_true rfl⟩
theorem kk_92_119 : js_lk 92 119 2 := ⟨kc_119, kw_68, kl_119_2, Nat.le_of_ble_eq_true rfl, Nat.le_of_ble_eq_true rfl⟩
theorem kk_92_121 : js_lk 92 121 2 := ⟨kc_121, kw_68, kl_121_2, Nat.le_of_ble_eq_true rfl, Nat.le_of_ble_eq_true rfl⟩
theorem kk_93_119 : js_lk 93 119 2 := ⟨kc_119, kw_68, kl_119_2, Nat.le_of_ble_eq_true rfl, Nat.le_of_ble_eq_true rfl⟩
theorem kk_93_121 : js_lk 93 121 2 := ⟨kc_121, kw_68, kl_121_2, Nat.le_of_ble_eq_true rfl, Nat.le_of_ble_eq_true rfl⟩
theorem kk_94_26 : js_lk 94 26 1 := ⟨kc_26, kw_73, kl_26_1, Nat.le_of_ble_eq_true rfl, Nat.le_of_ble_eq_true rfl⟩
theorem kk_95_28 : js_lk 95 28 1 := ⟨kc_28, kw_73, kl_28_1, Nat.le_of_ble_eq_true rfl, Nat.le_of_ble_eq_true rfl⟩
theorem kk_96_97 : js_lk 96 97 1 := ⟨kc_97, kw_68, kl_97_1, Nat.le_of_ble_eq_true rfl, Nat.le_of_ble_eq_true rfl⟩
theorem kk_96_245 : js_lk 96 245 1 := ⟨kc_245, kw_93, kl_245_1, Nat.le_of_ble_eq_true rfl, Nat.le_of_ble_eq_true rfl⟩
theorem kk_97_25 : js_lk 97 25 2 := ⟨kc_25, kw_73, kl_25_2, Nat.le_of_ble_eq_true rfl, Nat.le_of_ble_eq_true rfl⟩
theorem kk_97_117 : js_lk 97 117 1 := ⟨kc_117, kw_68, kl_117_1, Nat.le_of_ble_eq_true rfl, Nat.le_of_ble_eq_true rfl⟩
theorem kk_98_27 : js_lk 98 27 1 := ⟨kc_27, kw_73, kl_27_1, Nat.le_of_ble_eq_true rfl, Nat.le_of_ble_eq_true rfl⟩
theorem kk_99_18 : js_lk 99 18 1 := ⟨kc_18, kw_69, kl_18_1, Nat.le_of_ble_eq_true rfl, Nat.le_of_ble_eq_true rfl⟩
theorem kk_100_99 : js_lk 100 99 0 := ⟨kc_99, kw_68, kl_99_0, Nat.le_of_ble_eq_true rfl, Nat.le_of_ble_eq_true rfl⟩
theorem kk_100_132 : js_lk 100 132 1 := ⟨kc_132, kw_68, kl_132_1, Nat.le_of_ble_eq_true rfl, Nat.le_of_ble_eq_true rfl⟩
theorem kk_101_4 : js_lk 101 4 0 := ⟨kc_4, kw_69, kl_4_0, Nat.le_of_ble_eq_true rfl, Nat.le_of_ble_eq_true rfl⟩
theorem kk_101_18 : js_lk 101 18 1 := ⟨kc_18, kw_69, kl_18_1, Nat.le_of_ble_eq_true rfl, Nat.le_of_ble_eq_true rfl⟩
theorem kk_102_82 : js_lk 102 82 0 := ⟨kc_82, kw_68, kl_82_0, Nat.le_of_ble_eq_true rfl, Nat.le_of_ble_eq_true rfl⟩
theorem kk_102_83 : js_lk 102 83 0 := ⟨kc_83, kw_68, kl_83_0, Nat.le_of_ble_eq_true rfl, Nat.le_of_ble_eq_true rfl⟩
theorem kk_102_94 : js_lk 102 94 0 := ⟨kc_94, kw_68, kl_94_0, Nat.le_of_ble_eq_true rfl, Nat.le_of_ble_eq_true rfl⟩
theorem kk_102_95 : js_lk 102 95 0 := ⟨kc_95, kw_68, kl_95_0, Nat.le_of_ble_eq_true rfl, Nat.le_of_ble_eq_true rfl⟩
theorem kk_103_118 : js_lk 103 118 2 := ⟨kc_118, kw_68, kl_118_2, Nat.le_of_ble_eq_true rfl, Nat.le_of_ble_eq_true rfl⟩
theorem kk_103_124 : js_lk 103 124 1 := ⟨kc_124, kw_68, kl_124_1, Nat.le_of_ble_eq_true rfl, Nat.le_of_ble_eq_true rfl⟩
theorem kk_104_21 : js_lk 104 21 0 := ⟨kc_21, kw_70, kl_21_0, Nat.le_of_ble_eq_true rfl, Nat.le_of_ble_eq_true rfl⟩
theorem kk_104_22 : js_lk 104 22 1 := ⟨kc_22, kw_70, kl_22_1, Nat.le_of_ble_eq_true rfl, Nat.le_of_ble_eq_true rfl⟩
theorem kk_104_116 : js_lk 104 116 1 := ⟨kc_116, kw_68, kl_116_1, Nat.le_of_ble_eq_true rfl, Nat.le_of_ble_eq_true rfl⟩
theorem kk_104_130 : js_lk 104 130 1 := ⟨kc_130, kw_68, kl_130_1, Nat.le_of_ble_eq_true rfl, Nat.le_of_ble_eq_true rfl⟩
theorem kk_106_49 : js_lk 106 49 0 := ⟨kc_49, kw_74, kl_49_0, Nat.le_of_ble_eq_true rfl, Nat.le_of_ble_eq_true rfl⟩
theorem kk_106_50 : js_lk 106 50 1 := ⟨kc_50, kw_74, kl_50_1, Nat.le_of_ble_eq_true rfl, Nat.le_of_ble_eq_true rfl⟩
theorem kk_107_1 : js_lk 107 1 1 := ⟨kc_1, kw_69, kl_1_1, Nat.le_of_ble_eq_true rfl, Nat.le_of_ble_eq_true rfl⟩
theorem kk_107_43 : js_lk 107 43 1 := ⟨kc_43, kw_71, kl_43_1, Nat.le_of_ble_eq_true rfl, Nat.le_of_ble_eq_true rfl⟩
theorem kk_107_44 : js_lk 107 44 0 := ⟨kc_44, kw_71, kl_44_0, Nat.le_of_ble_eq_true rfl, Nat.le_of_ble_eq_true rfl⟩
theorem kk_107_51 : js_lk 107 51 0 := ⟨kc_51, kw_74, kl_51_0, Nat.le_of_ble_eq_true rfl, Nat.le_of_ble_eq_true rfl⟩
theorem kk_107_52 : js_lk 107 52 0 := ⟨kc_52, kw_74, kl_52_0, Nat.le_of_ble_eq_true rfl, Nat.le_of_ble_eq_true rfl⟩
theorem kk_107_114 : js_lk 107 114 1 := ⟨kc_114, kw_68, kl_114_1, Nat.le_of_ble_eq_true rfl, Nat.le_of_ble_eq_true rfl⟩
theorem kk_107_125 : js_lk 107 125 1 := ⟨kc_125, kw_68, kl_125_1, Nat.le_of_ble_eq_true rfl, Nat.le_of_ble_eq_true rfl⟩
theorem kk_110_1 : js_lk 110 1 1 := ⟨kc_1, kw_69, kl_1_1, Nat.le_of_ble_eq_true rfl, Nat.le_of_ble_eq_true rfl⟩
theorem kk_110_46 : js_lk 110 46 0 := ⟨kc_46, kw_71, kl_46_0, Nat.le_of_ble_eq_true rfl, Nat.le_of_ble_eq_true rfl⟩
theorem kk_112_1 : js_lk 112 1 1 := ⟨kc_1, kw_69, kl_1_1, Nat.le_of_ble_eq_true rfl, Nat.le_of_ble_eq_true rfl⟩
theorem kk_113_1 : js_lk 113 1 1 := ⟨kc_1, kw_69, kl_1_1, Nat.le_of_ble_eq_true rfl, Nat.le_of_ble_eq_true rfl⟩
theorem kk_113_47 : js_lk 113 47 0 := ⟨kc_47, kw_71, kl_47_0, Nat.le_of_ble_eq_true rfl, Nat.le_of_ble_eq_true rfl⟩
theorem kk_114_45 : js_lk 114 45 0 := ⟨kc_45, kw_71, kl_45_0, Nat.le_of_ble_eq_true rfl, Nat.le_of_ble_eq_true rfl⟩
theorem kk_114_115 : js_lk 114 115 1 := ⟨kc_115, kw_68, kl_115_1, Nat.le_of_ble_eq_true rfl, Nat.le_of_ble_eq_true rfl⟩
theorem kk_116_3 : js_lk 116 3 1 := ⟨kc_3, kw_69, kl_3_1, Nat.le_of_ble_eq_true rfl, Nat.le_of_ble_eq_true rfl⟩
theorem kk_117_21 : js_lk 117 21 0 := ⟨kc_21, kw_70, kl_21_0, Nat.le_of_ble_eq_true rfl, Nat.le_of_ble_eq_true rfl⟩
theorem kk_117_116 : js_lk 117 116 1 := ⟨kc_116, kw_68, kl_116_1, Nat.le_of_ble_eq_true rfl, Nat.le_of_ble_eq_true rfl⟩
theorem kk_118_126 : js_lk 118 126 2 := ⟨kc_126, kw_68, kl_126_2, Nat.le_of_ble_eq_true rfl, Nat.le_of_ble_eq_true rfl⟩
theorem kk_119_118 : js_lk 119 118 2 := ⟨kc_118, kw_68, kl_118_2, Nat.le_of_ble_eq_true rfl, Nat.le_of_ble_eq_true rfl⟩
theorem kk_119_120 : js_lk 119 120 1 := ⟨kc_120, kw_68, kl_120_1, Nat.le_of_ble_eq_true rfl, Nat.le_of_ble_eq_true rfl⟩
theorem kk_120_15 : js_lk 120 15 1 := ⟨kc_15, kw_69, kl_15_1, Nat.le_of_ble_eq_true rfl, Nat.le_of_ble_eq_true rfl⟩
theorem kk_121_32 : js_lk 121 32 2 := ⟨kc_32, kw_72, kl_32_2, Nat.le_of_ble_eq_true rfl, Nat.le_of_ble_eq_true rfl⟩
theorem kk_121_36 : js_lk 121 36 2 := ⟨kc_36, kw_72, kl_36_2, Nat.le_of_ble_eq_true rfl, Nat.le_of_ble_eq_true rfl⟩
theorem kk_122_126 : js_lk 122 126 2 := ⟨kc_126, kw_68, kl_126_2, Nat.le_of_ble_eq_true rfl, Nat.le_of_ble_eq_true rfl⟩
theorem kk_123_21 : js_lk 123 21 0 := ⟨kc_21, kw_70, kl_21_0, Nat.le_of_ble_eq_true rfl, Nat.le_of_ble_eq_true rfl⟩
theorem kk_124_15 : js_lk 124 15 1 := ⟨kc_15, kw_69, kl_15_1, Nat.le_of_ble_eq_true rfl, Nat.le_of_ble_eq_true rfl⟩
theorem kk_125_6 : js_lk 125 6 5 := ⟨kc_6, kw_69, kl_6_5, Nat.le_of_ble_eq_true rfl, Nat.le_of_ble_eq_true rfl⟩
theorem kk_125_7 : js_lk 125 7 1 := ⟨kc_7, kw_69, kl_7_1, Nat.le_of_ble_eq_true rfl, Nat.le_of_ble_eq_true rfl⟩
theorem kk_125_8 : js_lk 125 8 3 := ⟨kc_8, kw_69, kl_8_3, Nat.le_of_ble_eq_true rfl, Nat.le_of_ble_eq_true rfl⟩
theorem kk_125_10 : js_lk 125 10 1 := ⟨kc_10, kw_69, kl_10_1, Nat.le_of_ble_eq_true rfl, Nat.le_of_ble_eq_true rfl⟩
theorem kk_125_11 : js_lk 125 11 2 := ⟨kc_11, kw_69, kl_11_2, Nat.le_of_ble_eq_true rfl, Nat.le_of_ble_eq_true rfl⟩
theorem kk_125_12 : js_lk 125 12 2 := ⟨kc_12, kw_69, kl_12_2, Nat.le_of_ble_eq_true rfl, Nat.le_of_ble_eq_true rfl⟩
theorem kk_125_41 : js_lk 125 41 1 := ⟨kc_41, kw_72, kl_41_1, Nat.le_of_ble_eq_true rfl, Nat.le_of_ble_eq_true rfl⟩
theorem kk_125_241 : js_lk 125 241 0 := ⟨kc_241, kw_76, kl_241_0, Nat.le_of_ble_eq_true rfl, Nat.le_of_ble_eq_true rfl⟩
theorem kk_142_140 : js_lk 142 140 2 := ⟨kc_140, kw_78, kl_140_2, Nat.le_of_ble_eq_true rfl, Nat.le_of_ble_eq_true rfl⟩
theorem kk_143_140 : js_lk 143 140 2 := ⟨kc_140, kw_78, kl_140_2, Nat.le_of_ble_eq_true rfl, Nat.le_of_ble_eq_true rfl⟩
theorem kk_144_140 : js_lk 144 140 2 := ⟨kc_140, kw_78, kl_140_2, Nat.le_of_ble_eq_true rfl, Nat.le_of_ble_eq_true rfl⟩
theorem kk_145_140 : js_lk 145 140 2 := ⟨kc_140, kw_78, kl_140_2, Nat.le_of_ble_eq_true rfl, Nat.le_of_ble_eq_true rfl⟩
theorem kk_146_144 : js_lk 146 144 1 := ⟨kc_144, kw_78, kl_144_1, Nat.le_of_ble_eq_true rfl, Nat.le_of_ble_eq_true rfl⟩
theorem kk_146_145 : js_lk 146 145 1 := ⟨kc_145, kw_78, kl_145_1, Nat.le_of_ble_eq_true rfl, Nat.le_of_ble_eq_true rfl⟩
theorem kk_147_142 : js_lk 147 142 1 := ⟨kc_142, kw_78, kl_142_1, Nat.le_of_ble_eq_true rfl, Nat.le_of_ble_eq_true rfl⟩
theorem kk_147_145 : js_lk 147 145 1 := ⟨kc_145, kw_78, kl_145_1, Nat.le_of_ble_eq_true rfl, Nat.le_of_ble_eq_true rfl⟩
theorem kk_148_142 : js_lk 148 142 1 := ⟨kc_142, kw_78, kl_142_1, Nat.le_of_ble_eq_true rfl, Nat.le_of_ble_eq_true rfl⟩
theorem kk_148_147 : js_lk 148 147 1 := ⟨kc_147, kw_78, kl_147_1, Nat.le_of_ble_eq_true rfl, Nat.le_of_ble_eq_true rfl⟩
theorem kk_149_135 : js_lk 149 135 3 := ⟨kc_135, kw_78, kl_135_3, Nat.le_of_ble_eq_true rfl, Nat.le_of_ble_eq_true rfl⟩
theorem kk_150_135 : js_lk 150 135 3 := ⟨kc_135, kw_78, kl_135_3, Nat.le_of_ble_eq_true rfl, Nat.le_of_ble_eq_true rfl⟩
theorem kk_151_149 : js_lk 151 149 2 := ⟨kc_149, kw_78, kl_149_2, Nat.le_of_ble_eq_true rfl, Nat.le_of_ble_eq_true rfl⟩
theorem kk_152_151 : js_lk 152 151 2 := ⟨kc_151, kw_78, kl_151_2, Nat.le_of_ble_eq_true rfl, Nat.le_of_ble_eq_true rfl⟩
theorem kk_153_140 : js_lk 153 140 2 := ⟨kc_140, kw_78, kl_140_2, Nat.le_of_ble_eq_true rfl, Nat.le_of_ble_eq_true rfl⟩
theorem kk_154_140 : js_lk 154 140 2 := ⟨kc_140, kw_78, kl_140_2, Nat.le_of_ble_eq_true rfl, Nat.le_of_ble_eq_true rfl⟩
theorem kk_154_152 : js_lk 154 152 2 := ⟨kc_152, kw_78, kl_152_2, Nat.le_of_ble_eq_true rfl, Nat.le_of_ble_eq_true rfl⟩
theorem kk_154_153 : js_lk 154 153 3 := ⟨kc_153, kw_78, kl_153_3, Nat.le_of_ble_eq_true rfl, Nat.le_of_ble_eq_true rfl⟩
theorem kk_155_140 : js_lk 155 140 2 := ⟨kc_140, kw_78, kl_140_2, Nat.le_of_ble_eq_true rfl, Nat.le_of_ble_eq_true rfl⟩
theorem kk_155_152 : js_lk 155 152 2 := ⟨kc_152, kw_78, kl_152_2, Nat.le_of_ble_eq_true rfl, Nat.le_of_ble_eq_true rfl⟩
theorem kk_155_153 : js_lk 155 153 3 := ⟨kc_153, kw_78, kl_153_3, Nat.le_of_ble_eq_true rfl, Nat.le_of_ble_eq_true rfl⟩
theorem kk_155_154 : js_lk 155 154 2 := ⟨kc_154, kw_78, kl_154_2, Nat.le_of_ble_eq_true rfl, Nat.le_of_ble_eq_true rfl⟩
theorem kk_156_155 : js_lk 156 155 2 := ⟨kc_155, kw_78, kl_155_2, Nat.le_of_ble_eq_true rfl, Nat.le_of_ble_eq_true rfl⟩
theorem kk_157_156 : js_lk 157 156 2 := ⟨kc_156, kw_78, kl_156_2, Nat.le_of_ble_eq_true rfl, Nat.le_of_ble_eq_true rfl⟩
theorem kk_158_152 : js_lk 158 152 2 := ⟨kc_152, kw_78, kl_152_2, Nat.le_of_ble_eq_true rfl, Nat.le_of_ble_eq_true rfl⟩
theorem kk_159_158 : js_lk 159 158 1 := ⟨kc_158, kw_78, kl_158_1, Nat.le_of_ble_eq_true rfl, Nat.le_of_ble_eq_true rfl⟩
theorem kk_160_135 : js_lk 160 135 3 := ⟨kc_135, kw_78, kl_135_3, Nat.le_of_ble_eq_true rfl, Nat.le_of_ble_eq_true rfl⟩
theorem kk_160_138 : js_lk 160 138 1 := ⟨kc_138, kw_78, kl_138_1, Nat.le_of_ble_eq_true rfl, Nat.le_of_ble_eq_true rfl⟩
theorem kk_160_141 : js_lk 160 141 3 := ⟨kc_141, kw_78, kl_141_3, Nat.le_of_ble_eq_true rfl, Nat.le_of_ble_eq_true rfl⟩
theorem kk_160_142 : js_lk 160 142 1 := ⟨kc_142, kw_78, kl_142_1, Nat.le_of_ble_eq_true rfl, Nat.le_of_ble_eq_true rfl⟩
theorem kk_160_148 : js_lk 160 148 1 := ⟨kc_148, kw_78, kl_148_1, Nat.le_of_ble_eq_true rfl, Nat.le_of_ble_eq_true rfl⟩
theorem kk_160_150 : js_lk 160 150 1 := ⟨kc_150, kw_78, kl_150_1, Nat.le_of_ble_eq_true rfl, Nat.le_of_ble_eq_true rfl⟩
theorem kk_161_136 : js_lk 161 136 0 := ⟨kc_136, kw_78, kl_136_0, Nat.le_of_ble_eq_true rfl, Nat.le_of_ble_eq_true rfl⟩
theorem kk_161_137 : js_lk 161 137 1 := ⟨kc_137, kw_78, kl_137_1, Nat.le_of_ble_eq_true rfl, Nat.le_of_ble_eq_true rfl⟩
theorem kk_161_160 : js_lk 161 160 5 := ⟨kc_160, kw_78, kl_160_5, Nat.le_of_ble_eq_true rfl, Nat.le_of_ble_eq_true rfl⟩
theorem kk_162_138 : js_lk 162 138 1 := ⟨kc_138, kw_78, kl_138_1, Nat.le_of_ble_eq_true rfl, Nat.le_of_ble_eq_true rfl⟩
theorem kk_162_141 : js_lk 162 141 3 := ⟨kc_141, kw_78, kl_141_3, Nat.le_of_ble_eq_true rfl, Nat.le_of_ble_eq_true rfl⟩
theorem kk_162_144 : js_lk 162 144 1 := ⟨kc_144, kw_78, kl_144_1, Nat.le_of_ble_eq_true rfl, Nat.le_of_ble_eq_true rfl⟩
theorem kk_162_145 : js_lk 162 145 1 := ⟨kc_145, kw_78, kl_145_1, Nat.le_of_ble_eq_true rfl, Nat.le_of_ble_eq_true rfl⟩
theorem kk_162_148 : js_lk 162 148 1 := ⟨kc_148, kw_78, kl_148_1, Nat.le_of_ble_eq_true rfl, Nat.le_of_ble_eq_true rfl⟩
theorem kk_163_136 : js_lk 163 136 0 := ⟨kc_136, kw_78, kl_136_0, Nat.le_of_ble_eq_true rfl, Nat.le_of_ble_eq_true rfl⟩
theorem kk_163_137 : js_lk 163 137 1 := ⟨kc_137, kw_78, kl_137_1, Nat.le_of_ble_eq_true rfl, Nat.le_of_ble_eq_true rfl⟩
theorem kk_163_162 : js_lk 163 162 1 := ⟨kc_162, kw_78, kl_162_1, Nat.le_of_ble_eq_true rfl, Nat.le_of_ble_eq_true rfl⟩
theorem kk_164_148 : js_lk 164 148 1 := ⟨kc_148, kw_78, kl_148_1, Nat.le_of_ble_eq_true rfl, Nat.le_of_ble_eq_true rfl⟩
theorem kk_165_148 : js_lk 165 148 1 := ⟨kc_148, kw_78, kl_148_1, Nat.le_of_ble_eq_true rfl, Nat.le_of_ble_eq_true rfl⟩
theorem kk_166_135 : js_lk 166 135 3 := ⟨kc_135, kw_78, kl_135_3, Nat.le_of_ble_eq_true rfl, Nat.le_of_ble_eq_true rfl⟩
theorem kk_166_139 : js_lk 166 139 1 := ⟨kc_139, kw_78, kl_139_1, Nat.le_of_ble_eq_true rfl, Nat.le_of_ble_eq_true rfl⟩
theorem kk_166_143 : js_lk 166 143 1 := ⟨kc_143, kw_78, kl_143_1, Nat.le_of_ble_eq_true rfl, Nat.le_of_ble_eq_true rfl⟩
theorem kk_166_147 : js_lk 166 147 1 := ⟨kc_147, kw_78, kl_147_1, Nat.le_of_ble_eq_true rfl, Nat.le_of_ble_eq_true rfl⟩
theorem kk_166_148 : js_lk 166 148 1 := ⟨kc_148, kw_78, kl_148_1, Nat.le_of_ble_eq_true rfl, Nat.le_of_ble_eq_true rfl⟩
theorem kk_167_144 : js_lk 167 144 1 := ⟨kc_144, kw_78, kl_144_1, Nat.le_of_ble_eq_true rfl, Nat.le_of_ble_eq_true rfl⟩
theorem kk_168_139 : js_lk 168 139 1 := ⟨kc_139, kw_78, kl_139_1, Nat.le_of_ble_eq_true rfl, Nat.le_of_ble_eq_true rfl⟩
theorem kk_168_140 : js_lk 168 140 2 := ⟨kc_140, kw_78, kl_140_2, Nat.le_of_ble_eq_true rfl, Nat.le_of_ble_eq_true rfl⟩
theorem kk_168_144 : js_lk 168 144 1 := ⟨kc_144, kw_78, kl_144_1, Nat.le_of_ble_eq_true rfl, Nat.le_of_ble_eq_true rfl⟩
theorem kk_169_139 : js_lk 169 139 1 := ⟨kc_139, kw_78, kl_139_1, Nat.le_of_ble_eq_true rfl, Nat.le_of_ble_eq_true rfl⟩
theorem kk_169_140 : js_lk 169 140 2 := ⟨kc_140, kw_78, kl_140_2, Nat.le_of_ble_eq_true rfl, Nat.le_of_ble_eq_true rfl⟩
theorem kk_169_144 : js_lk 169 144 1 := ⟨kc_144, kw_78, kl_144_1, Nat.le_of_ble_eq_true rfl, Nat.le_of_ble_eq_true rfl⟩
theorem kk_170_135 : js_lk 170 135 3 := ⟨kc_135, kw_78, kl_135_3, Nat.le_of_ble_eq_true rfl, Nat.le_of_ble_eq_true rfl⟩
theorem kk_170_140 : js_lk 170 140 2 := ⟨kc_140, kw_78, kl_140_2, Nat.le_of_ble_eq_true rfl, Nat.le_of_ble_eq_true rfl⟩
theorem kk_170_144 : js_lk 170 144 1 := ⟨kc_144, kw_78, kl_144_1, Nat.le_of_ble_eq_true rfl, Nat.le_of_ble_eq_true rfl⟩
theorem kk_170_153 : js_lk 170 153 3 := ⟨kc_153, kw_78, kl_153_3, Nat.le_of_ble_eq_true rfl, Nat.le_of_ble_eq_true rfl⟩
theorem kk_171_139 : js_lk 171 139 1 := ⟨kc_139, kw_78, kl_139_1, Nat.le_of_ble_eq_true rfl, Nat.le_of_ble_eq_true rfl⟩
theorem kk_171_144 : js_lk 171 144 1 := ⟨kc_144, kw_78, kl_144_1, Nat.le_of_ble_eq_true rfl, Nat.le_of_ble_eq_true rfl⟩
theorem kk_171_145 : js_lk 171 145 1 := ⟨kc_145, kw_78, kl_145_1, Nat.le_of_ble_eq_true rfl, Nat.le_of_ble_eq_true rfl⟩
theorem kk_172_139 : js_lk 172 139 1 := ⟨kc_139, kw_78, kl_139_1, Nat.le_of_ble_eq_true rfl, Nat.le_of_ble_eq_true rfl⟩
theorem kk_172_140 : js_lk 172 140 2 := ⟨kc_140, kw_78, kl_140_2, Nat.le_of_ble_eq_true rfl, Nat.le_of_ble_eq_true rfl⟩
theorem kk_172_146 : js_lk 172 146 1 := ⟨kc_146, kw_78, kl_146_1, Nat.le_of_ble_eq_true rfl, Nat.le_of_ble_eq_true rfl⟩
theorem kk_173_140 : js_lk 173 140 2 := ⟨kc_140, kw_78, kl_140_2, Nat.le_of_ble_eq_true rfl, Nat.le_of_ble_eq_true rfl⟩
theorem kk_173_142 : js_lk 173 142 1 := ⟨kc_142, kw_78, kl_142_1, Nat.le_of_ble_eq_true rfl, Nat.le_of_ble_eq_true rfl⟩
theorem kk_174_141 : js_lk 174 141 3 := ⟨kc_141, kw_78, kl_141_3, Nat.le_of_ble_eq_true rfl, Nat.le_of_ble_eq_true rfl⟩
theorem kk_175_138 : js_lk 175 138 1 := ⟨kc_138, kw_78, kl_138_1, Nat.le_of_ble_eq_true rfl, Nat.le_of_ble_eq_true rfl⟩
theorem kk_175_144 : js_lk 175 144 1 := ⟨kc_144, kw_78, kl_144_1, Nat.le_of_ble_eq_true rfl, Nat.le_of_ble_eq_true rfl⟩
theorem kk_175_145 : js_lk 175 145 1 := ⟨kc_145, kw_78, kl_145_1, Nat.le_of_ble_eq_true rfl, Nat.le_of_ble_eq_true rfl⟩
theorem kk_175_149 : js_lk 175 149 2 := ⟨kc_149, kw_78, kl_149_2, Nat.le_of_ble_eq_true rfl, Nat.le_of_ble_eq_true rfl⟩
theorem kk_175_156 : js_lk 175 156 2 := ⟨kc_156, kw_78, kl_156_2, Nat.le_of_ble_eq_true rfl, Nat.le_of_ble_eq_true rfl⟩
theorem kk_175_174 : js_lk 175 174 2 := ⟨kc_174, kw_78, kl_174_2, Nat.le_of_ble_eq_true rfl, Nat.le_of_ble_eq_true rfl⟩
theorem kk_176_136 : js_lk 176 136 0 := ⟨kc_136, kw_78, kl_136_0, Nat.le_of_ble_eq_true rfl, Nat.le_of_ble_eq_true rfl⟩
theorem kk_176_137 : js_lk 176 137 1 := ⟨kc_137, kw_78, kl_137_1, Nat.le_of_ble_eq_true rfl, Nat.le_of_ble_eq_true rfl⟩
theorem kk_176_175 : js_lk 176 175 3 := ⟨kc_175, kw_78, kl_175_3, Nat.le_of_ble_eq_true rfl, Nat.le_of_ble_eq_true rfl⟩
theorem kk_177_138 : js_lk 177 138 1 := ⟨kc_138, kw_78, kl_138_1, Nat.le_of_ble_eq_true rfl, Nat.le_of_ble_eq_true rfl⟩
theorem kk_177_140 : js_lk 177 140 2 := ⟨kc_140, kw_78, kl_140_2, Nat.le_of_ble_eq_true rfl, Nat.le_of_ble_eq_true rfl⟩
theorem kk_177_141 : js_lk 177 141 3 := ⟨kc_141, kw_78, kl_141_3, Nat.le_of_ble_eq_true rfl, Nat.le_of_ble_eq_true rfl⟩
theorem kk_177_144 : js_lk 177 144 1 := ⟨kc_144, kw_78, kl_144_1, Nat.le_of_ble_eq_true rfl, Nat.le_of_ble_eq_true rfl⟩
theorem kk_177_145 : js_lk 177 145 1 := ⟨kc_145, kw_78, kl_145_1, Nat.le_of_ble_eq_true rfl, Nat.le_of_ble_eq_true rfl⟩
theorem kk_177_156 : js_lk 177 156 2 := ⟨kc_156, kw_78, kl_156_2, Nat.le_of_ble_eq_true rfl, Nat.le_of_ble_eq_true rfl⟩
theorem kk_178_136 : js_lk 178 136 0 := ⟨kc_136, kw_78, kl_136_0, Nat.le_of_ble_eq_true rfl, Nat.le_of_ble_eq_true rfl⟩
theorem kk_178_137 : js_lk 178 137 1 := ⟨kc_137, kw_78, kl_137_1, Nat.le_of_ble_eq_true rfl, Nat.le_of_ble_eq_true rfl⟩
theorem kk_178_177 : js_lk 178 177 1 := ⟨kc_177, kw_78, kl_177_1, Nat.le_of_ble_eq_true rfl, Nat.le_of_ble_eq_true rfl⟩
theorem kk_179_135 : js_lk 179 135 3 := ⟨kc_135, kw_78, kl_135_3, Nat.le_of_ble_eq_true rfl, Nat.le_of_ble_eq_true rfl⟩
theorem kk_179_138 : js_lk 179 138 1 := ⟨kc_138, kw_78, kl_138_1, Nat.le_of_ble_eq_true rfl, Nat.le_of_ble_eq_true rfl⟩
theorem kk_179_140 : js_lk 179 140 2 := ⟨kc_140, kw_78, kl_140_2, Nat.le_of_ble_eq_true rfl, Nat.le_of_ble_eq_true rfl⟩
theorem kk_179_141 : js_lk 179 141 3 := ⟨kc_141, kw_78, kl_141_3, Nat.le_of_ble_eq_true rfl, Nat.le_of_ble_eq_true rfl⟩
theorem kk_179_144 : js_lk 179 144 1 := ⟨kc_144, kw_78, kl_144_1, Nat.le_of_ble_eq_true rfl, Nat.le_of_ble_eq_true rfl⟩
theorem kk_180_136 : js_lk 180 136 0 := ⟨kc_136, kw_78, kl_136_0, Nat.le_of_ble_eq_true rfl, Nat.le_of_ble_eq_true rfl⟩
theorem kk_180_137 : js_lk 180 137 1 := ⟨kc_137, kw_78, kl_137_1, Nat.le_of_ble_eq_true rfl, Nat.le_of_ble_eq_true rfl⟩
theorem kk_180_179 : js_lk 180 179 2 := ⟨kc_179, kw_78, kl_179_2, Nat.le_of_ble_eq_true rfl, Nat.le_of_ble_eq_true rfl⟩
theorem kk_181_138 : js_lk 181 138 1 := ⟨kc_138, kw_78, kl_138_1, Nat.le_of_ble_eq_true rfl, Nat.le_of_ble_eq_true rfl⟩
theorem kk_181_140 : js_lk 181 140 2 := ⟨kc_140, kw_78, kl_140_2, Nat.le_of_ble_eq_true rfl, Nat.le_of_ble_eq_true rfl⟩
theorem kk_181_144 : js_lk 181 144 1 := ⟨kc_144, kw_78, kl_144_1, Nat.le_of_ble_eq_true rfl, Nat.le_of_ble_eq_true rfl⟩
theorem kk_181_145 : js_lk 181 145 1 := ⟨kc_145, kw_78, kl_145_1, Nat.le_of_ble_eq_true rfl, Nat.le_of_ble_eq_true rfl⟩
theorem kk_181_157 : js_lk 181 157 1 := ⟨kc_157, kw_78, kl_157_1, Nat.le_of_ble_eq_true rfl, Nat.le_of_ble_eq_true rfl⟩
theorem kk_181_174 : js_lk 181 174 2 := ⟨kc_174, kw_78, kl_174_2, Nat.le_of_ble_eq_true rfl, Nat.le_of_ble_eq_true rfl⟩
theorem kk_182_136 : js_lk 182 136 0 := ⟨kc_136, kw_78, kl_136_0, Nat.le_of_ble_eq_true rfl, Nat.le_of_ble_eq_true rfl⟩
theorem kk_182_137 : js_lk 182 137 1 := ⟨kc_137, kw_78, kl_137_1, Nat.le_of_ble_eq_true rfl, Nat.le_of_ble_eq_true rfl⟩
theorem kk_182_181 : js_lk 182 181 2 := ⟨kc_181, kw_78, kl_181_2, Nat.le_of_ble_eq_true rfl, Nat.le_of_ble_eq_true rfl⟩
theorem kk_183_140 : js_lk 183 140 2 := ⟨kc_140, kw_78, kl_140_2, Nat.le_of_ble_eq_true rfl, Nat.le_of_ble_eq_true rfl⟩
theorem kk_183_152 : js_lk 183 152 2 := ⟨kc_152, kw_78, kl_152_2, Nat.le_of_ble_eq_true rfl, Nat.le_of_ble_eq_true rfl⟩
theorem kk_183_153 : js_lk 183 153 3 := ⟨kc_153, kw_78, kl_153_3, Nat.le_of_ble_eq_true rfl, Nat.le_of_ble_eq_true rfl⟩
theorem kk_183_154 : js_lk 183 154 2 := ⟨kc_154, kw_78, kl_154_2, Nat.le_of_ble_eq_true rfl, Nat.le_of_ble_eq_true rfl⟩
theorem kk_184_183 : js_lk 184 183 3 := ⟨kc_183, kw_78, kl_183_3, Nat.le_of_ble_eq_true rfl, Nat.le_of_ble_eq_true rfl⟩
theorem kk_185_183 : js_lk 185 183 3 := ⟨kc_183, kw_78, kl_183_3, Nat.le_of_ble_eq_true rfl, Nat.le_of_ble_eq_true rfl⟩
theorem kk_185_184 : js_lk 185 184 2 := ⟨kc_184, kw_78, kl_184_2, Nat.le_of_ble_eq_true rfl, Nat.le_of_ble_eq_true rfl⟩
theorem kk_186_143 : js_lk 186 143 1 := ⟨kc_143, kw_78, kl_143_1, Nat.le_of_ble_eq_true rfl, Nat.le_of_ble_eq_true rfl⟩
theorem kk_186_185 : js_lk 186 185 2 := ⟨kc_185, kw_78, kl_185_2, Nat.le_of_ble_eq_true rfl, Nat.le_of_ble_eq_true rfl⟩
theorem kk_187_147 : js_lk 187 147 1 := ⟨kc_147, kw_78, kl_147_1, Nat.le_of_ble_eq_true rfl, Nat.le_of_ble_eq_true rfl⟩
theorem kk_187_186 : js_lk 187 186 3 := ⟨kc_186, kw_78, kl_186_3, Nat.le_of_ble_eq_true rfl, Nat.le_of_ble_eq_true rfl⟩
theorem kk_188_141 : js_lk 188 141 3 := ⟨kc_141, kw_78, kl_141_3, Nat.le_of_ble_eq_true rfl, Nat.le_of_ble_eq_true rfl⟩
theorem kk_188_174 : js_lk 188 174 2 := ⟨kc_174, kw_78, kl_174_2, Nat.le_of_ble_eq_true rfl, Nat.le_of_ble_eq_true rfl⟩
theorem kk_188_184 : js_lk 188 184 2 := ⟨kc_184, kw_78, kl_184_2, Nat.le_of_ble_eq_true rfl, Nat.le_of_ble_eq_true rfl⟩
theorem kk_189_149 : js_lk 189 149 2 := ⟨kc_149, kw_78, kl_149_2, Nat.le_of_ble_eq_true rfl, Nat.le_of_ble_eq_true rfl⟩
theorem kk_189_159 : js_lk 189 159 1 := ⟨kc_159, kw_78, kl_159_1, Nat.le_of_ble_eq_true rfl, Nat.le_of_ble_eq_true rfl⟩
theorem kk_190_138 : js_lk 190 138 1 := ⟨kc_138, kw_78, kl_138_1, Nat.le_of_ble_eq_true rfl, Nat.le_of_ble_eq_true rfl⟩
theorem kk_190_143 : js_lk 190 143 1 := ⟨kc_143, kw_78, kl_143_1, Nat.le_of_ble_eq_true rfl, Nat.le_of_ble_eq_true rfl⟩
theorem kk_190_187 : js_lk 190 187 1 := ⟨kc_187, kw_78, kl_187_1, Nat.le_of_ble_eq_true rfl, Nat.le_of_ble_eq_true rfl⟩
theorem kk_190_188 : js_lk 190 188 2 := ⟨kc_188, kw_78, kl_188_2, Nat.le_of_ble_eq_true rfl, Nat.le_of_ble_eq_true rfl⟩
theorem kk_190_189 : js_lk 190 189 2 := ⟨kc_189, kw_78, kl_189_2, Nat.le_of_ble_eq_true rfl, Nat.le_of_ble_eq_true rfl⟩
theorem kk_191_136 : js_lk 191 136 0 := ⟨kc_136, kw_78, kl_136_0, Nat.le_of_ble_eq_true rfl, Nat.le_of_ble_eq_true rfl⟩
theorem kk_191_137 : js_lk 191 137 1 := ⟨kc_137, kw_78, kl_137_1, Nat.le_of_ble_eq_true rfl, Nat.le_of_ble_eq_true rfl⟩
theorem kk_191_190 : js_lk 191 190 2 := ⟨kc_190, kw_78, kl_190_2, Nat.le_of_ble_eq_true rfl, Nat.le_of_ble_eq_true rfl⟩
theorem kk_192_187 : js_lk 192 187 1 := ⟨kc_187, kw_78, kl_187_1, Nat.le_of_ble_eq_true rfl, Nat.le_of_ble_eq_true rfl⟩
theorem kk_192_188 : js_lk 192 188 2 := ⟨kc_188, kw_78, kl_188_2, Nat.le_of_ble_eq_true rfl, Nat.le_of_ble_eq_true rfl⟩
theorem kk_192_193 : js_lk 192 193 0 := ⟨kc_193, kw_78, kl_193_0, Nat.le_of_ble_eq_true rfl, Nat.le_of_ble_eq_true rfl⟩
theorem kk_193_148 : js_lk 193 148 1 := ⟨kc_148, kw_78, kl_148_1, Nat.le_of_ble_eq_true rfl, Nat.le_of_ble_eq_true rfl⟩
theorem kk_193_159 : js_lk 193 159 1 := ⟨kc_159, kw_78, kl_159_1, Nat.le_of_ble_eq_true rfl, Nat.le_of_ble_eq_true rfl⟩
theorem kk_193_185 : js_lk 193 185 2 := ⟨kc_185, kw_78, kl_185_2, Nat.le_of_ble_eq_true rfl, Nat.le_of_ble_eq_true rfl⟩
theorem kk_193_187 : js_lk 193 187 1 := ⟨kc_187, kw_78, kl_187_1, Nat.le_of_ble_eq_true rfl, Nat.le_of_ble_eq_true rfl⟩
theorem kk_193_246 : js_lk 193 246 2 := ⟨kc_246, kw_87, kl_246_2, Nat.le_of_ble_eq_true rfl, Nat.le_of_ble_eq_true rfl⟩
theorem kk_194_136 : js_lk 194 136 0 := ⟨kc_136, kw_78, kl_136_0, Nat.le_of_ble_eq_true rfl, Nat.le_of_ble_eq_true rfl⟩
theorem kk_194_137 : js_lk 194 137 1 := ⟨kc_137, kw_78, kl_137_1, Nat.le_of_ble_eq_true rfl, Nat.le_of_ble_eq_true rfl⟩
theorem kk_194_192 : js_lk 194 192 0 := ⟨kc_192, kw_78, kl_192_0, Nat.le_of_ble_eq_true rfl, Nat.le_of_ble_eq_true rfl⟩
theorem kk_195_135 : js_lk 195 135 3 := ⟨kc_135, kw_78, kl_135_3, Nat.le_of_ble_eq_true rfl, Nat.le_of_ble_eq_true rfl⟩
theorem kk_195_144 : js_lk 195 144 1 := ⟨kc_144, kw_78, kl_144_1, Nat.le_of_ble_eq_true rfl, Nat.le_of_ble_eq_true rfl⟩
theorem kk_195_145 : js_lk 195 145 1 := ⟨kc_145, kw_78, kl_145_1, Nat.le_of_ble_eq_true rfl, Nat.le_of_ble_eq_true rfl⟩
theorem kk_195_149 : js_lk 195 149 2 := ⟨kc_149, kw_78, kl_149_2, Nat.le_of_ble_eq_true rfl, Nat.le_of_ble_eq_true rfl⟩
theorem kk_195_183 : js_lk 195 183 3 := ⟨kc_183, kw_78, kl_183_3, Nat.le_of_ble_eq_true rfl, Nat.le_of_ble_eq_true rfl⟩
theorem kk_195_189 : js_lk 195 189 2 := ⟨kc_189, kw_78, kl_189_2, Nat.le_of_ble_eq_true rfl, Nat.le_of_ble_eq_true rfl⟩
theorem kk_196_144 : js_lk 196 144 1 := ⟨kc_144, kw_78, kl_144_1, Nat.le_of_ble_eq_true rfl, Nat.le_of_ble_eq_true rfl⟩
theorem kk_196_145 : js_lk 196 145 1 := ⟨kc_145, kw_78, kl_145_1, Nat.le_of_ble_eq_true rfl, Nat.le_of_ble_eq_true rfl⟩
theorem kk_196_149 : js_lk 196 149 2 := ⟨kc_149, kw_78, kl_149_2, Nat.le_of_ble_eq_true rfl, Nat.le_of_ble_eq_true rfl⟩
theorem kk_196_184 : js_lk 196 184 2 := ⟨kc_184, kw_78, kl_184_2, Nat.le_of_ble_eq_true rfl, Nat.le_of_ble_eq_true rfl⟩
theorem kk_196_189 : js_lk 196 189 2 := ⟨kc_189, kw_78, kl_189_2, Nat.le_of_ble_eq_true rfl, Nat.le_of_ble_eq_true rfl⟩
theorem kk_197_143 : js_lk 197 143 1 := ⟨kc_143, kw_78, kl_143_1, Nat.le_of_ble_eq_true rfl, Nat.le_of_ble_eq_true rfl⟩
theorem kk_197_148 : js_lk 197 148 1 := ⟨kc_148, kw_78, kl_148_1, Nat.le_of_ble_eq_true rfl, Nat.le_of_ble_eq_true rfl⟩
theorem kk_197_187 : js_lk 197 187 1 := ⟨kc_187, kw_78, kl_187_1, Nat.le_of_ble_eq_true rfl, Nat.le_of_ble_eq_true rfl⟩
theorem kk_197_189 : js_lk 197 189 2 := ⟨kc_189, kw_78, kl_189_2, Nat.le_of_ble_eq_true rfl, Nat.le_of_ble_eq_true rfl⟩
theorem kk_198_135 : js_lk 198 135 3 := ⟨kc_135, kw_78, kl_135_3, Nat.le_of_ble_eq_true rfl, Nat.le_of_ble_eq_true rfl⟩
theorem kk_198_143 : js_lk 198 143 1 := ⟨kc_143, kw_78, kl_143_1, Nat.le_of_ble_eq_true rfl, Nat.le_of_ble_eq_true rfl⟩
theorem kk_198_147 : js_lk 198 147 1 := ⟨kc_147, kw_78, kl_147_1, Nat.le_of_ble_eq_true rfl, Nat.le_of_ble_eq_true rfl⟩
theorem kk_198_148 : js_lk 198 148 1 := ⟨kc_148, kw_78, kl_148_1, Nat.le_of_ble_eq_true rfl, Nat.le_of_ble_eq_true rfl⟩
theorem kk_198_186 : js_lk 198 186 3 := ⟨kc_186, kw_78, kl_186_3, Nat.le_of_ble_eq_true rfl, Nat.le_of_ble_eq_true rfl⟩
theorem kk_198_189 : js_lk 198 189 2 := ⟨kc_189, kw_78, kl_189_2, Nat.le_of_ble_eq_true rfl, Nat.le_of_ble_eq_true rfl⟩
theorem kk_199_139 : js_lk 199 139 1 := ⟨kc_139, kw_78, kl_139_1, Nat.le_of_ble_eq_true rfl, Nat.le_of_ble_eq_true rfl⟩
theorem kk_199_149 : js_lk 199 149 2 := ⟨kc_149, kw_78, kl_149_2, Nat.le_of_ble_eq_true rfl, Nat.le_of_ble_eq_true rfl⟩
theorem kk_200_143 : js_lk 200 143 1 := ⟨kc_143, kw_78, kl_143_1, Nat.le_of_ble_eq_true rfl, Nat.le_of_ble_eq_true rfl⟩
theorem kk_200_149 : js_lk 200 149 2 := ⟨kc_149, kw_78, kl_149_2, Nat.le_of_ble_eq_true rfl, Nat.le_of_ble_eq_true rfl⟩
theorem kk_202_139 : js_lk 202 139 1 := ⟨kc_139, kw_78, kl_139_1, Nat.le_of_ble_eq_true rfl, Nat.le_of_ble_eq_true rfl⟩
theorem kk_202_140 : js_lk 202 140 2 := ⟨kc_140, kw_78, kl_140_2, Nat.le_of_ble_eq_true rfl, Nat.le_of_ble_eq_true rfl⟩
theorem kk_202_150 : js_lk 202 150 1 := ⟨kc_150, kw_78, kl_150_1, Nat.le_of_ble_eq_true rfl, Nat.le_of_ble_eq_true rfl⟩
theorem kk_203_159 : js_lk 203 159 1 := ⟨kc_159, kw_78, kl_159_1, Nat.le_of_ble_eq_true rfl, Nat.le_of_ble_eq_true rfl⟩
theorem kk_204_203 : js_lk 204 203 0 := ⟨kc_203, kw_78, kl_203_0, Nat.le_of_ble_eq_true rfl, Nat.le_of_ble_eq_true rfl⟩
theorem kk_205_159 : js_lk 205 159 1 := ⟨kc_159, kw_78, kl_159_1, Nat.le_of_ble_eq_true rfl, Nat.le_of_ble_eq_true rfl⟩
theorem kk_206_157 : js_lk 206 157 1 := ⟨kc_157, kw_78, kl_157_1, Nat.le_of_ble_eq_true rfl, Nat.le_of_ble_eq_true rfl⟩
theorem kk_207_157 : js_lk 207 157 1 := ⟨kc_157, kw_78, kl_157_1, Nat.le_of_ble_eq_true rfl, Nat.le_of_ble_eq_true rfl⟩
theorem kk_208_135 : js_lk 208 135 3 := ⟨kc_135, kw_78, kl_135_3, Nat.le_of_ble_eq_true rfl, Nat.le_of_ble_eq_true rfl⟩
theorem kk_208_140 : js_lk 208 140 2 := ⟨kc_140, kw_78, kl_140_2, Nat.le_of_ble_eq_true rfl, Nat.le_of_ble_eq_true rfl⟩
theorem kk_208_146 : js_lk 208 146 1 := ⟨kc_146, kw_78, kl_146_1, Nat.le_of_ble_eq_true rfl, Nat.le_of_ble_eq_true rfl⟩
theorem kk_208_155 : js_lk 208 155 2 := ⟨kc_155, kw_78, kl_155_2, Nat.le_of_ble_eq_true rfl, Nat.le_of_ble_eq_true rfl⟩
theorem kk_209_139 : js_lk 209 139 1 := ⟨kc_139, kw_78, kl_139_1, Nat.le_of_ble_eq_true rfl, Nat.le_of_ble_eq_true rfl⟩
theorem kk_209_140 : js_lk 209 140 2 := ⟨kc_140, kw_78, kl_140_2, Nat.le_of_ble_eq_true rfl, Nat.le_of_ble_eq_true rfl⟩
theorem kk_209_146 : js_lk 209 146 1 := ⟨kc_146, kw_78, kl_146_1, Nat.le_of_ble_eq_true rfl, Nat.le_of_ble_eq_true rfl⟩
theorem kk_209_156 : js_lk 209 156 2 := ⟨kc_156, kw_78, kl_156_2, Nat.le_of_ble_eq_true rfl, Nat.le_of_ble_eq_true rfl⟩
theorem kk_210_158 : js_lk 210 158 1 := ⟨kc_158, kw_78, kl_158_1, Nat.le_of_ble_eq_true rfl, Nat.le_of_ble_eq_true rfl⟩
theorem kk_210_189 : js_lk 210 189 2 := ⟨kc_189, kw_78, kl_189_2, Nat.le_of_ble_eq_true rfl, Nat.le_of_ble_eq_true rfl⟩
theorem kk_211_151 : js_lk 211 151 2 := ⟨kc_151, kw_78, kl_151_2, Nat.le_of_ble_eq_true rfl, Nat.le_of_ble_eq_true rfl⟩
theorem kk_211_155 : js_lk 211 155 2 := ⟨kc_155, kw_78, kl_155_2, Nat.le_of_ble_eq_true rfl, Nat.le_of_ble_eq_true rfl⟩
theorem kk_213_211 : js_lk 213 211 1 := ⟨kc_211, kw_78, kl_211_1, Nat.le_of_ble_eq_true rfl, Nat.le_of_ble_eq_true rfl⟩
theorem kk_214_213 : js_lk 214 213 0 := ⟨kc_213, kw_78, kl_213_0, Nat.le_of_ble_eq_true rfl, Nat.le_of_ble_eq_true rfl⟩
theorem kk_215_139 : js_lk 215 139 1 := ⟨kc_139, kw_78, kl_139_1, Nat.le_of_ble_eq_true rfl, Nat.le_of_ble_eq_true rfl⟩
theorem kk_215_140 : js_lk 215 140 2 := ⟨kc_140, kw_78, kl_140_2, Nat.le_of_ble_eq_true rfl, Nat.le_of_ble_eq_true rfl⟩
theorem kk_215_146 : js_lk 215 146 1 := ⟨kc_146, kw_78, kl_146_1, Nat.le_of_ble_eq_true rfl, Nat.le_of_ble_eq_true rfl⟩
theorem kk_215_211 : js_lk 215 211 1 := ⟨kc_211, kw_78, kl_211_1, Nat.le_of_ble_eq_true rfl, Nat.le_of_ble_eq_true rfl⟩
theorem kk_215_212 : js_lk 215 212 1 := ⟨kc_212, kw_78, kl_212_1, Nat.le_of_ble_eq_true rfl, Nat.le_of_ble_eq_true rfl⟩
theorem kk_216_139 : js_lk 216 139 1 := ⟨kc_139, kw_78, kl_139_1, Nat.le_of_ble_eq_true rfl, Nat.le_of_ble_eq_true rfl⟩
theorem kk_216_140 : js_lk 216 140 2 := ⟨kc_140, kw_78, kl_140_2, Nat.le_of_ble_eq_true rfl, Nat.le_of_ble_eq_true rfl⟩
theorem kk_216_146 : js_lk 216 146 1 := ⟨kc_146, kw_78, kl_146_1, Nat.le_of_ble_eq_true rfl, Nat.le_of_ble_eq_true rfl⟩
theorem kk_216_211 : js_lk 216 211 1 := ⟨kc_211, kw_78, kl_211_1, Nat.le_of_ble_eq_true rfl, Nat.le_of_ble_eq_true rfl⟩
theorem kk_217_211 : js_lk 217 211 1 := ⟨kc_211, kw_78, kl_211_1, Nat.le_of_ble_eq_true rfl, Nat.le_of_ble_eq_true rfl⟩
theorem kk_217_212 : js_lk 217 212 1 := ⟨kc_212, kw_78, kl_212_1, Nat.le_of_ble_eq_true rfl, Nat.le_of_ble_eq_true rfl⟩
theorem kk_217_246 : js_lk 217 246 2 := ⟨kc_246, kw_87, kl_246_2, Nat.le_of_ble_eq_true rfl, Nat.le_of_ble_eq_true rfl⟩
theorem kk_218_139 : js_lk 218 139 1 := ⟨kc_139, kw_78, kl_139_1, Nat.le_of_ble_eq_true rfl, Nat.le_of_ble_eq_true rfl⟩
theorem kk_218_157 : js_lk 218 157 1 := ⟨kc_157, kw_78, kl_157_1, Nat.le_of_ble_eq_true rfl, Nat.le_of_ble_eq_true rfl⟩
theorem kk_219_218 : js_lk 219 218 0 := ⟨kc_218, kw_78, kl_218_0, Nat.le_of_ble_eq_true rfl, Nat.le_of_ble_eq_true rfl⟩
theorem kk_219_243 : js_lk 219 243 1 := ⟨kc_243, kw_95, kl_243_1, Nat.le_of_ble_eq_true rfl, Nat.le_of_ble_eq_true rfl⟩
theorem kk_220_139 : js_lk 220 139 1 := ⟨kc_139, kw_78, kl_139_1, Nat.le_of_ble_eq_true rfl, Nat.le_of_ble_eq_true rfl⟩
theorem kk_220_148 : js_lk 220 148 1 := ⟨kc_148, kw_78, kl_148_1, Nat.le_of_ble_eq_true rfl, Nat.le_of_ble_eq_true rfl⟩
theorem kk_220_157 : js_lk 220 157 1 := ⟨kc_157, kw_78, kl_157_1, Nat.le_of_ble_eq_true rfl, Nat.le_of_ble_eq_true rfl⟩
theorem kk_223_135 : js_lk 223 135 3 := ⟨kc_135, kw_78, kl_135_3, Nat.le_of_ble_eq_true rfl, Nat.le_of_ble_eq_true rfl⟩
theorem kk_223_139 : js_lk 223 139 1 := ⟨kc_139, kw_78, kl_139_1, Nat.le_of_ble_eq_true rfl, Nat.le_of_ble_eq_true rfl⟩
theorem kk_223_140 : js_lk 223 140 2 := ⟨kc_140, kw_78, kl_140_2, Nat.le_of_ble_eq_true rfl, Nat.le_of_ble_eq_true rfl⟩
theorem kk_223_159 : js_lk 223 159 1 := ⟨kc_159, kw_78, kl_159_1, Nat.le_of_ble_eq_true rfl, Nat.le_of_ble_eq_true rfl⟩
theorem kk_223_222 : js_lk 223 222 1 := ⟨kc_222, kw_78, kl_222_1, Nat.le_of_ble_eq_true rfl, Nat.le_of_ble_eq_true rfl⟩
theorem kk_224_139 : js_lk 224 139 1 := ⟨kc_139, kw_78, kl_139_1, Nat.le_of_ble_eq_true rfl, Nat.le_of_ble_eq_true rfl⟩
theorem kk_224_140 : js_lk 224 140 2 := ⟨kc_140, kw_78, kl_140_2, Nat.le_of_ble_eq_true rfl, Nat.le_of_ble_eq_true rfl⟩
theorem kk_224_144 : js_lk 224 144 1 := ⟨kc_144, kw_78, kl_144_1, Nat.le_of_ble_eq_true rfl, Nat.le_of_ble_eq_true rfl⟩
theorem kk_224_145 : js_lk 224 145 1 := ⟨kc_145, kw_78, kl_145_1, Nat.le_of_ble_eq_true rfl, Nat.le_of_ble_eq_true rfl⟩
theorem kk_224_153 : js_lk 224 153 3 := ⟨kc_153, kw_78, kl_153_3, Nat.le_of_ble_eq_true rfl, Nat.le_of_ble_eq_true rfl⟩
theorem kk_224_222 : js_lk 224 222 1 := ⟨kc_222, kw_78, kl_222_1, Nat.le_of_ble_eq_true rfl, Nat.le_of_ble_eq_true rfl⟩
theorem kk_225_135 : js_lk 225 135 3 := ⟨kc_135, kw_78, kl_135_3, Nat.le_of_ble_eq_true rfl, Nat.le_of_ble_eq_true rfl⟩
theorem kk_225_139 : js_lk 225 139 1 := ⟨kc_139, kw_78, kl_139_1, Nat.le_of_ble_eq_true rfl, Nat.le_of_ble_eq_true rfl⟩
theorem kk_228_227 : js_lk 228 227 1 := ⟨kc_227, kw_78, kl_227_1, Nat.le_of_ble_eq_true rfl, Nat.le_of_ble_eq_true rfl⟩
theorem kk_228_248 : js_lk 228 248 0 := ⟨kc_248, kw_89, kl_248_0, Nat.le_of_ble_eq_true rfl, Nat.le_of_ble_eq_true rfl⟩
theorem kk_228_249 : js_lk 228 249 1 := ⟨kc_249, kw_89, kl_249_1, Nat.le_of_ble_eq_true rfl, Nat.le_of_ble_eq_true rfl⟩
theorem kk_229_135 : js_lk 229 135 3 := ⟨kc_135, kw_78, kl_135_3, Nat.le_of_ble_eq_true rfl, Nat.le_of_ble_eq_true rfl⟩
theorem kk_230_227 : js_lk 230 227 1 := ⟨kc_227, kw_78, kl_227_1, Nat.le_of_ble_eq_true rfl, Nat.le_of_ble_eq_true rfl⟩
theorem kk_230_229 : js_lk 230 229 1 := ⟨kc_229, kw_78, kl_229_1, Nat.le_of_ble_eq_true rfl, Nat.le_of_ble_eq_true rfl⟩
theorem kk_231_135 : js_lk 231 135 3 := ⟨kc_135, kw_78, kl_135_3, Nat.le_of_ble_eq_true rfl, Nat.le_of_ble_eq_true rfl⟩
theorem kk_231_227 : js_lk 231 227 1 := ⟨kc_227, kw_78, kl_227_1, Nat.le_of_ble_eq_true rfl, Nat.le_of_ble_eq_true rfl⟩
theorem kk_231_230 : js_lk 231 230 1 := ⟨kc_230, kw_78, kl_230_1, Nat.le_of_ble_eq_true rfl, Nat.le_of_ble_eq_true rfl⟩
theorem kk_232_150 : js_lk 232 150 1 := ⟨kc_150, kw_78, kl_150_1, Nat.le_of_ble_eq_true rfl, Nat.le_of_ble_eq_true rfl⟩
theorem kk_232_227 : js_lk 232 227 1 := ⟨kc_227, kw_78, kl_227_1, Nat.le_of_ble_eq_true rfl, Nat.le_of_ble_eq_true rfl⟩
theorem kk_232_228 : js_lk 232 228 1 := ⟨kc_228, kw_78, kl_228_1, Nat.le_of_ble_eq_true rfl, Nat.le_of_ble_eq_true rfl⟩
theorem kk_232_230 : js_lk 232 230 1 := ⟨kc_230, kw_78, kl_230_1, Nat.le_of_ble_eq_true rfl, Nat.le_of_ble_eq_true rfl⟩
theorem kk_232_231 : js_lk 232 231 0 := ⟨kc_231, kw_78, kl_231_0, Nat.le_of_ble_eq_true rfl, Nat.le_of_ble_eq_true rfl⟩
theorem kk_233_160 : js_lk 233 160 5 := ⟨kc_160, kw_78, kl_160_5, Nat.le_of_ble_eq_true rfl, Nat.le_of_ble_eq_true rfl⟩
theorem kk_233_162 : js_lk 233 162 1 := ⟨kc_162, kw_78, kl_162_1, Nat.le_of_ble_eq_true rfl, Nat.le_of_ble_eq_true rfl⟩
theorem kk_233_175 : js_lk 233 175 3 := ⟨kc_175, kw_78, kl_175_3, Nat.le_of_ble_eq_true rfl, Nat.le_of_ble_eq_true rfl⟩
theorem kk_233_177 : js_lk 233 177 1 := ⟨kc_177, kw_78, kl_177_1, Nat.le_of_ble_eq_true rfl, Nat.le_of_ble_eq_true rfl⟩
theorem kk_233_179 : js_lk 233 179 2 := ⟨kc_179, kw_78, kl_179_2, Nat.le_of_ble_eq_true rfl, Nat.le_of_ble_eq_true rfl⟩
theorem kk_233_181 : js_lk 233 181 2 := ⟨kc_181, kw_78, kl_181_2, Nat.le_of_ble_eq_true rfl, Nat.le_of_ble_eq_true rfl⟩
theorem kk_233_192 : js_lk 233 192 0 := ⟨kc_192, kw_78, kl_192_0, Nat.le_of_ble_eq_true rfl, Nat.le_of_ble_eq_true rfl⟩
theorem kk_234_136 : js_lk 234 136 0 := ⟨kc_136, kw_78, kl_136_0, Nat.le_of_ble_eq_true rfl, Nat.le_of_ble_eq_true rfl⟩
theorem kk_234_137 : js_lk 234 137 1 := ⟨kc_137, kw_78, kl_137_1, Nat.le_of_ble_eq_true rfl, Nat.le_of_ble_eq_true rfl⟩
theorem kk_234_138 : js_lk 234 138 1 := ⟨kc_138, kw_78, kl_138_1, Nat.le_of_ble_eq_true rfl, Nat.le_of_ble_eq_true rfl⟩
theorem kk_234_227 : js_lk 234 227 1 := ⟨kc_227, kw_78, kl_227_1, Nat.le_of_ble_eq_true rfl, Nat.le_of_ble_eq_true rfl⟩
theorem kk_234_232 : js_lk 234 232 0 := ⟨kc_232, kw_78, kl_232_0, Nat.le_of_ble_eq_true rfl, Nat.le_of_ble_eq_true rfl⟩
theorem kk_234_233 : js_lk 234 233 1 := ⟨kc_233, kw_78, kl_233_1, Nat.le_of_ble_eq_true rfl, Nat.le_of_ble_eq_true rfl⟩
theorem kk_235_139 : js_lk 235 139 1 := ⟨kc_139, kw_78, kl_139_1, Nat.le_of_ble_eq_true rfl, Nat.le_of_ble_eq_true rfl⟩
theorem kk_236_139 : js_lk 236 139 1 := ⟨kc_139, kw_78, kl_139_1, Nat.le_of_ble_eq_true rfl, Nat.le_of_ble_eq_true rfl⟩
theorem kk_239_148 : js_lk 239 148 1 := ⟨kc_148, kw_78, kl_148_1, Nat.le_of_ble_eq_true rfl, Nat.le_of_ble_eq_true rfl⟩
theorem kk_240_148 : js_lk 240 148 1 := ⟨kc_148, kw_78, kl_148_1, Nat.le_of_ble_eq_true rfl, Nat.le_of_ble_eq_true rfl⟩
theorem kk_243_242 : js_lk 243 242 1 := ⟨kc_242, kw_95, kl_242_1, Nat.le_of_ble_eq_true rfl, Nat.le_of_ble_eq_true rfl⟩
theorem kk_248_250 : js_lk 248 250 0 := ⟨kc_250, kw_89, kl_250_0, Nat.le_of_ble_eq_true rfl, Nat.le_of_ble_eq_true rfl⟩
theorem kk_249_251 : js_lk 249 251 0 := ⟨kc_251, kw_89, kl_251_0, Nat.le_of_ble_eq_true rfl, Nat.le_of_ble_eq_true rfl⟩
theorem kk_249_253 : js_lk 249 253 2 := ⟨kc_253, kw_96, kl_253_2, Nat.le_of_ble_eq_true rfl, Nat.le_of_ble_eq_true rfl⟩
theorem kk_252_254 : js_lk 252 254 3 := ⟨kc_254, kw_97, kl_254_3, Nat.le_of_ble_eq_true rfl, Nat.le_of_ble_eq_true rfl⟩
theorem kk_253_252 : js_lk 253 252 2 := ⟨kc_252, kw_89, kl_252_2, Nat.le_of_ble_eq_true rfl, Nat.le_of_ble_eq_true rfl⟩
end JS
