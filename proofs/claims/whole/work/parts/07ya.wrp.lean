/-! The wrappers: the exception's number, the answer kept. -/
section JX
section WR
variable {h h1 : jx_H} {C : cl_T}
theorem w_255_ok (I : cl_I h C) {v1 v2 v3 v4 v5 : Int32} {y : Int32} (e : jx_A 60 [.ref 200, .int v1, .int v2, .int v3, .int v4, .int v5] h = some (.inl (some (.int y)), h1)) : jx_A 255 [.ref 200, .int v1, .int v2, .int v3, .int v4, .int v5, .ref 719] h = jx_st h1 719 102 0 (.long (cv_I (.int y))) (fun h6 => some (.inl (some (.int 0)), h6)) := by
  rw [a_255, cl_I_is I, jx_hI_e e] <;> rfl
theorem w_255_eIA (I : cl_I h C) {v1 v2 v3 v4 v5 : Int32} (e : jx_A 60 [.ref 200, .int v1, .int v2, .int v3, .int v4, .int v5] h = some (.inr eIA, h1)) : jx_A 255 [.ref 200, .int v1, .int v2, .int v3, .int v4, .int v5, .ref 719] h = some (.inl (some (.int 1)), h1) := by
  rw [a_255, cl_I_is I, jx_hI_x e, jx_hd_y, jx_U_eq, b_255_19]
theorem w_255_eIS (I : cl_I h C) {v1 v2 v3 v4 v5 : Int32} (e : jx_A 60 [.ref 200, .int v1, .int v2, .int v3, .int v4, .int v5] h = some (.inr eIS, h1)) : jx_A 255 [.ref 200, .int v1, .int v2, .int v3, .int v4, .int v5, .ref 719] h = some (.inl (some (.int 2)), h1) := by
  rw [a_255, cl_I_is I, jx_hI_x e, jx_hd_n (by decide), jx_hd_y, jx_U_eq, b_255_23]
theorem w_256_ok (I : cl_I h C) {v1 : Int32} {y : Int32} (e : jx_A 61 [.ref 200, .int v1] h = some (.inl (some (.int y)), h1)) : jx_A 256 [.ref 200, .int v1, .ref 719] h = jx_st h1 719 102 0 (.long (cv_I (.int y))) (fun h6 => some (.inl (some (.int 0)), h6)) := by
  rw [a_256, cl_I_is I, jx_hI_e e] <;> rfl
theorem w_256_eNS (I : cl_I h C) {v1 : Int32} (e : jx_A 61 [.ref 200, .int v1] h = some (.inr eNS, h1)) : jx_A 256 [.ref 200, .int v1, .ref 719] h = some (.inl (some (.int 1)), h1) := by
  rw [a_256, cl_I_is I, jx_hI_x e, jx_hd_y, jx_U_eq, b_256_12]
theorem w_256_eIS (I : cl_I h C) {v1 : Int32} (e : jx_A 61 [.ref 200, .int v1] h = some (.inr eIS, h1)) : jx_A 256 [.ref 200, .int v1, .ref 719] h = some (.inl (some (.int 2)), h1) := by
  rw [a_256, cl_I_is I, jx_hI_x e, jx_hd_n (by decide), jx_hd_y, jx_U_eq, b_256_15]
theorem w_257_ok (I : cl_I h C) {v1 : Int32} {y : Int32} (e : jx_A 64 [.ref 200, .int v1] h = some (.inl (some (.int y)), h1)) : jx_A 257 [.ref 200, .int v1, .ref 719] h = jx_st h1 719 102 0 (.long (cv_I (.int y))) (fun h6 => some (.inl (some (.int 0)), h6)) := by
  rw [a_257, cl_I_is I, jx_hI_e e] <;> rfl
theorem w_257_eIO (I : cl_I h C) {v1 : Int32} (e : jx_A 64 [.ref 200, .int v1] h = some (.inr eIO, h1)) : jx_A 257 [.ref 200, .int v1, .ref 719] h = some (.inl (some (.int 1)), h1) := by
  rw [a_257, cl_I_is I, jx_hI_x e, jx_hd_y, jx_U_eq, b_257_12]
theorem w_258_ok (I : cl_I h C) {v1 : Int32} {y : Int32} (e : jx_A 66 [.ref 200, .int v1] h = some (.inl (some (.int y)), h1)) : jx_A 258 [.ref 200, .int v1, .ref 719] h = jx_st h1 719 102 0 (.long (cv_I (.int y))) (fun h6 => some (.inl (some (.int 0)), h6)) := by
  rw [a_258, cl_I_is I, jx_hI_e e] <;> rfl
theorem w_258_eNS (I : cl_I h C) {v1 : Int32} (e : jx_A 66 [.ref 200, .int v1] h = some (.inr eNS, h1)) : jx_A 258 [.ref 200, .int v1, .ref 719] h = some (.inl (some (.int 1)), h1) := by
  rw [a_258, cl_I_is I, jx_hI_x e, jx_hd_y, jx_U_eq, b_258_12]
theorem w_259_ok (I : cl_I h C) {v1 : Int32} {y : Int32} (e : jx_A 67 [.ref 200, .int v1] h = some (.inl (some (.int y)), h1)) : jx_A 259 [.ref 200, .int v1, .ref 719] h = jx_st h1 719 102 0 (.long (cv_I (.int y))) (fun h6 => some (.inl (some (.int 0)), h6)) := by
  rw [a_259, cl_I_is I, jx_hI_e e] <;> rfl
theorem w_259_eNS (I : cl_I h C) {v1 : Int32} (e : jx_A 67 [.ref 200, .int v1] h = some (.inr eNS, h1)) : jx_A 259 [.ref 200, .int v1, .ref 719] h = some (.inl (some (.int 1)), h1) := by
  rw [a_259, cl_I_is I, jx_hI_x e, jx_hd_y, jx_U_eq, b_259_12]
theorem w_260_ok (I : cl_I h C) {v1 v2 : Int32} {y : Int32} (e : jx_A 68 [.ref 200, .int v1, .int v2] h = some (.inl (some (.int y)), h1)) : jx_A 260 [.ref 200, .int v1, .int v2, .ref 719] h = jx_st h1 719 102 0 (.long (cv_I (.int y))) (fun h6 => some (.inl (some (.int 0)), h6)) := by
  rw [a_260, cl_I_is I, jx_hI_e e] <;> rfl
theorem w_260_eNS (I : cl_I h C) {v1 v2 : Int32} (e : jx_A 68 [.ref 200, .int v1, .int v2] h = some (.inr eNS, h1)) : jx_A 260 [.ref 200, .int v1, .int v2, .ref 719] h = some (.inl (some (.int 1)), h1) := by
  rw [a_260, cl_I_is I, jx_hI_x e, jx_hd_y, jx_U_eq, b_260_13]
theorem w_260_eIA (I : cl_I h C) {v1 v2 : Int32} (e : jx_A 68 [.ref 200, .int v1, .int v2] h = some (.inr eIA, h1)) : jx_A 260 [.ref 200, .int v1, .int v2, .ref 719] h = some (.inl (some (.int 2)), h1) := by
  rw [a_260, cl_I_is I, jx_hI_x e, jx_hd_n (by decide), jx_hd_y, jx_U_eq, b_260_17]
theorem w_261_ok (I : cl_I h C) {v1 : Int32} {y : Int32} (e : jx_A 69 [.ref 200, .int v1] h = some (.inl (some (.int y)), h1)) : jx_A 261 [.ref 200, .int v1, .ref 719] h = jx_st h1 719 102 0 (.long (cv_B (.int y))) (fun h6 => some (.inl (some (.int 0)), h6)) := by
  rw [a_261, cl_I_is I, jx_hI_e e]
  by_cases c : y = 0
  · rw [if_pos c, show cv_B (.int y) = 0 from if_pos c]
  · rw [if_neg c, show cv_B (.int y) = 1 from if_neg c]
theorem w_261_eNS (I : cl_I h C) {v1 : Int32} (e : jx_A 69 [.ref 200, .int v1] h = some (.inr eNS, h1)) : jx_A 261 [.ref 200, .int v1, .ref 719] h = some (.inl (some (.int 1)), h1) := by
  rw [a_261, cl_I_is I, jx_hI_x e, jx_hd_y, jx_U_eq, b_261_19]
theorem w_262_ok (I : cl_I h C) {v1 : Int32} {y : Int32} (e : jx_A 70 [.ref 200, .int v1] h = some (.inl (some (.int y)), h1)) : jx_A 262 [.ref 200, .int v1, .ref 719] h = jx_st h1 719 102 0 (.long (cv_I (.int y))) (fun h6 => some (.inl (some (.int 0)), h6)) := by
  rw [a_262, cl_I_is I, jx_hI_e e] <;> rfl
theorem w_262_eNS (I : cl_I h C) {v1 : Int32} (e : jx_A 70 [.ref 200, .int v1] h = some (.inr eNS, h1)) : jx_A 262 [.ref 200, .int v1, .ref 719] h = some (.inl (some (.int 1)), h1) := by
  rw [a_262, cl_I_is I, jx_hI_x e, jx_hd_y, jx_U_eq, b_262_12]
theorem w_263_ok (I : cl_I h C) {v1 v2 v3 : Int32} {y : Int32} (e : jx_A 72 [.ref 200, .int v1, .int v2, .int v3] h = some (.inl (some (.int y)), h1)) : jx_A 263 [.ref 200, .int v1, .int v2, .int v3, .ref 719] h = jx_st h1 719 102 0 (.long (cv_I (.int y))) (fun h6 => some (.inl (some (.int 0)), h6)) := by
  rw [a_263, cl_I_is I, jx_hI_e e] <;> rfl
theorem w_263_eNS (I : cl_I h C) {v1 v2 v3 : Int32} (e : jx_A 72 [.ref 200, .int v1, .int v2, .int v3] h = some (.inr eNS, h1)) : jx_A 263 [.ref 200, .int v1, .int v2, .int v3, .ref 719] h = some (.inl (some (.int 1)), h1) := by
  rw [a_263, cl_I_is I, jx_hI_x e, jx_hd_y, jx_U_eq, b_263_15]
theorem w_263_eIO (I : cl_I h C) {v1 v2 v3 : Int32} (e : jx_A 72 [.ref 200, .int v1, .int v2, .int v3] h = some (.inr eIO, h1)) : jx_A 263 [.ref 200, .int v1, .int v2, .int v3, .ref 719] h = some (.inl (some (.int 2)), h1) := by
  rw [a_263, cl_I_is I, jx_hI_x e, jx_hd_n (by decide), jx_hd_y, jx_U_eq, b_263_19]
theorem w_263_eIS (I : cl_I h C) {v1 v2 v3 : Int32} (e : jx_A 72 [.ref 200, .int v1, .int v2, .int v3] h = some (.inr eIS, h1)) : jx_A 263 [.ref 200, .int v1, .int v2, .int v3, .ref 719] h = some (.inl (some (.int 3)), h1) := by
  rw [a_263, cl_I_is I, jx_hI_x e, jx_hd_n (by decide), jx_hd_n (by decide), jx_hd_y, jx_U_eq, b_263_23]
theorem w_264_ok (I : cl_I h C) {v1 : Int32} {y : Int32} (e : jx_A 73 [.ref 200, .int v1] h = some (.inl (some (.int y)), h1)) : jx_A 264 [.ref 200, .int v1, .ref 719] h = jx_st h1 719 102 0 (.long (cv_I (.int y))) (fun h6 => some (.inl (some (.int 0)), h6)) := by
  rw [a_264, cl_I_is I, jx_hI_e e] <;> rfl
theorem w_264_eNS (I : cl_I h C) {v1 : Int32} (e : jx_A 73 [.ref 200, .int v1] h = some (.inr eNS, h1)) : jx_A 264 [.ref 200, .int v1, .ref 719] h = some (.inl (some (.int 1)), h1) := by
  rw [a_264, cl_I_is I, jx_hI_x e, jx_hd_y, jx_U_eq, b_264_12]
theorem w_264_eIS (I : cl_I h C) {v1 : Int32} (e : jx_A 73 [.ref 200, .int v1] h = some (.inr eIS, h1)) : jx_A 264 [.ref 200, .int v1, .ref 719] h = some (.inl (some (.int 2)), h1) := by
  rw [a_264, cl_I_is I, jx_hI_x e, jx_hd_n (by decide), jx_hd_y, jx_U_eq, b_264_15]
theorem w_265_ok (I : cl_I h C) {v1 v2 : Int32} {y : Int32} (e : jx_A 74 [.ref 200, .int v1, .int v2] h = some (.inl (some (.int y)), h1)) : jx_A 265 [.ref 200, .int v1, .int v2, .ref 719] h = jx_st h1 719 102 0 (.long (cv_I (.int y))) (fun h6 => some (.inl (some (.int 0)), h6)) := by
  rw [a_265, cl_I_is I, jx_hI_e e] <;> rfl
theorem w_265_eNS (I : cl_I h C) {v1 v2 : Int32} (e : jx_A 74 [.ref 200, .int v1, .int v2] h = some (.inr eNS, h1)) : jx_A 265 [.ref 200, .int v1, .int v2, .ref 719] h = some (.inl (some (.int 1)), h1) := by
  rw [a_265, cl_I_is I, jx_hI_x e, jx_hd_y, jx_U_eq, b_265_13]
theorem w_265_eIA (I : cl_I h C) {v1 v2 : Int32} (e : jx_A 74 [.ref 200, .int v1, .int v2] h = some (.inr eIA, h1)) : jx_A 265 [.ref 200, .int v1, .int v2, .ref 719] h = some (.inl (some (.int 2)), h1) := by
  rw [a_265, cl_I_is I, jx_hI_x e, jx_hd_n (by decide), jx_hd_y, jx_U_eq, b_265_17]
theorem w_266_ok (I : cl_I h C) {v1 v2 : Int32} {y : Int32} (e : jx_A 75 [.ref 200, .int v1, .int v2] h = some (.inl (some (.int y)), h1)) : jx_A 266 [.ref 200, .int v1, .int v2, .ref 719] h = jx_st h1 719 102 0 (.long (cv_I (.int y))) (fun h6 => some (.inl (some (.int 0)), h6)) := by
  rw [a_266, cl_I_is I, jx_hI_e e] <;> rfl
theorem w_266_eNS (I : cl_I h C) {v1 v2 : Int32} (e : jx_A 75 [.ref 200, .int v1, .int v2] h = some (.inr eNS, h1)) : jx_A 266 [.ref 200, .int v1, .int v2, .ref 719] h = some (.inl (some (.int 1)), h1) := by
  rw [a_266, cl_I_is I, jx_hI_x e, jx_hd_y, jx_U_eq, b_266_13]
theorem w_266_eIA (I : cl_I h C) {v1 v2 : Int32} (e : jx_A 75 [.ref 200, .int v1, .int v2] h = some (.inr eIA, h1)) : jx_A 266 [.ref 200, .int v1, .int v2, .ref 719] h = some (.inl (some (.int 2)), h1) := by
  rw [a_266, cl_I_is I, jx_hI_x e, jx_hd_n (by decide), jx_hd_y, jx_U_eq, b_266_17]
theorem w_266_eIS (I : cl_I h C) {v1 v2 : Int32} (e : jx_A 75 [.ref 200, .int v1, .int v2] h = some (.inr eIS, h1)) : jx_A 266 [.ref 200, .int v1, .int v2, .ref 719] h = some (.inl (some (.int 3)), h1) := by
  rw [a_266, cl_I_is I, jx_hI_x e, jx_hd_n (by decide), jx_hd_n (by decide), jx_hd_y, jx_U_eq, b_266_21]
theorem w_267_ok (I : cl_I h C) {v1 v2 : Int32} {y : Int32} (e : jx_A 76 [.ref 200, .int v1, .int v2] h = some (.inl (some (.int y)), h1)) : jx_A 267 [.ref 200, .int v1, .int v2, .ref 719] h = jx_st h1 719 102 0 (.long (cv_I (.int y))) (fun h6 => some (.inl (some (.int 0)), h6)) := by
  rw [a_267, cl_I_is I, jx_hI_e e] <;> rfl
theorem w_267_eIO (I : cl_I h C) {v1 v2 : Int32} (e : jx_A 76 [.ref 200, .int v1, .int v2] h = some (.inr eIO, h1)) : jx_A 267 [.ref 200, .int v1, .int v2, .ref 719] h = some (.inl (some (.int 1)), h1) := by
  rw [a_267, cl_I_is I, jx_hI_x e, jx_hd_y, jx_U_eq, b_267_13]
theorem w_267_eUO (I : cl_I h C) {v1 v2 : Int32} (e : jx_A 76 [.ref 200, .int v1, .int v2] h = some (.inr eUO, h1)) : jx_A 267 [.ref 200, .int v1, .int v2, .ref 719] h = some (.inl (some (.int 2)), h1) := by
  rw [a_267, cl_I_is I, jx_hI_x e, jx_hd_n (by decide), jx_hd_y, jx_U_eq, b_267_17]
theorem w_267_eNS (I : cl_I h C) {v1 v2 : Int32} (e : jx_A 76 [.ref 200, .int v1, .int v2] h = some (.inr eNS, h1)) : jx_A 267 [.ref 200, .int v1, .int v2, .ref 719] h = some (.inl (some (.int 3)), h1) := by
  rw [a_267, cl_I_is I, jx_hI_x e, jx_hd_n (by decide), jx_hd_n (by decide), jx_hd_y, jx_U_eq, b_267_21]
theorem w_268_ok (I : cl_I h C) {v1 v2 : Int32} {y : Int32} (e : jx_A 78 [.ref 200, .int v1, .int v2] h = some (.inl (some (.int y)), h1)) : jx_A 268 [.ref 200, .int v1, .int v2, .ref 719] h = jx_st h1 719 102 0 (.long (cv_B (.int y))) (fun h6 => some (.inl (some (.int 0)), h6)) := by
  rw [a_268, cl_I_is I, jx_hI_e e]
  by_cases c : y = 0
  · rw [if_pos c, show cv_B (.int y) = 0 from if_pos c]
  · rw [if_neg c, show cv_B (.int y) = 1 from if_neg c]
theorem w_268_eIO (I : cl_I h C) {v1 v2 : Int32} (e : jx_A 78 [.ref 200, .int v1, .int v2] h = some (.inr eIO, h1)) : jx_A 268 [.ref 200, .int v1, .int v2, .ref 719] h = some (.inl (some (.int 1)), h1) := by
  rw [a_268, cl_I_is I, jx_hI_x e, jx_hd_y, jx_U_eq, b_268_20]
theorem w_269_ok (I : cl_I h C) {v1 v2 : Int32} {y : Int32} (e : jx_A 79 [.ref 200, .int v1, .int v2] h = some (.inl (some (.int y)), h1)) : jx_A 269 [.ref 200, .int v1, .int v2, .ref 719] h = jx_st h1 719 102 0 (.long (cv_I (.int y))) (fun h6 => some (.inl (some (.int 0)), h6)) := by
  rw [a_269, cl_I_is I, jx_hI_e e] <;> rfl
theorem w_269_eIO (I : cl_I h C) {v1 v2 : Int32} (e : jx_A 79 [.ref 200, .int v1, .int v2] h = some (.inr eIO, h1)) : jx_A 269 [.ref 200, .int v1, .int v2, .ref 719] h = some (.inl (some (.int 1)), h1) := by
  rw [a_269, cl_I_is I, jx_hI_x e, jx_hd_y, jx_U_eq, b_269_13]
theorem w_269_eNS (I : cl_I h C) {v1 v2 : Int32} (e : jx_A 79 [.ref 200, .int v1, .int v2] h = some (.inr eNS, h1)) : jx_A 269 [.ref 200, .int v1, .int v2, .ref 719] h = some (.inl (some (.int 2)), h1) := by
  rw [a_269, cl_I_is I, jx_hI_x e, jx_hd_n (by decide), jx_hd_y, jx_U_eq, b_269_17]
theorem w_270_ok (I : cl_I h C) {v1 : Int32} {y : Int64} (e : jx_A 81 [.ref 200, .int v1] h = some (.inl (some (.long y)), h1)) : jx_A 270 [.ref 200, .int v1, .ref 719] h = jx_st h1 719 102 0 (.long (cv_I (.long y))) (fun h6 => some (.inl (some (.int 0)), h6)) := by
  rw [a_270, cl_I_is I, jx_hL_e e] <;> rfl
theorem w_270_eIA (I : cl_I h C) {v1 : Int32} (e : jx_A 81 [.ref 200, .int v1] h = some (.inr eIA, h1)) : jx_A 270 [.ref 200, .int v1, .ref 719] h = some (.inl (some (.int 1)), h1) := by
  rw [a_270, cl_I_is I, jx_hL_x e, jx_hd_y, jx_U_eq, b_270_11]
theorem w_271_ok (I : cl_I h C) {v1 v2 : Int32} {y : Int32} (e : jx_A 87 [.ref 200, .int v1, .int v2] h = some (.inl (some (.int y)), h1)) : jx_A 271 [.ref 200, .int v1, .int v2, .ref 719] h = jx_st h1 719 102 0 (.long (cv_B (.int y))) (fun h6 => some (.inl (some (.int 0)), h6)) := by
  rw [a_271, cl_I_is I, jx_hI_e e]
  by_cases c : y = 0
  · rw [if_pos c, show cv_B (.int y) = 0 from if_pos c]
  · rw [if_neg c, show cv_B (.int y) = 1 from if_neg c]
theorem w_271_eNS (I : cl_I h C) {v1 v2 : Int32} (e : jx_A 87 [.ref 200, .int v1, .int v2] h = some (.inr eNS, h1)) : jx_A 271 [.ref 200, .int v1, .int v2, .ref 719] h = some (.inl (some (.int 1)), h1) := by
  rw [a_271, cl_I_is I, jx_hI_x e, jx_hd_y, jx_U_eq, b_271_20]
theorem w_271_eIA (I : cl_I h C) {v1 v2 : Int32} (e : jx_A 87 [.ref 200, .int v1, .int v2] h = some (.inr eIA, h1)) : jx_A 271 [.ref 200, .int v1, .int v2, .ref 719] h = some (.inl (some (.int 2)), h1) := by
  rw [a_271, cl_I_is I, jx_hI_x e, jx_hd_n (by decide), jx_hd_y, jx_U_eq, b_271_24]
theorem w_272_ok (I : cl_I h C) {v1 : Int32} {y : Int32} (e : jx_A 88 [.ref 200, .int v1] h = some (.inl (some (.int y)), h1)) : jx_A 272 [.ref 200, .int v1, .ref 719] h = jx_st h1 719 102 0 (.long (cv_I (.int y))) (fun h6 => some (.inl (some (.int 0)), h6)) := by
  rw [a_272, cl_I_is I, jx_hI_e e] <;> rfl
theorem w_272_eNS (I : cl_I h C) {v1 : Int32} (e : jx_A 88 [.ref 200, .int v1] h = some (.inr eNS, h1)) : jx_A 272 [.ref 200, .int v1, .ref 719] h = some (.inl (some (.int 1)), h1) := by
  rw [a_272, cl_I_is I, jx_hI_x e, jx_hd_y, jx_U_eq, b_272_12]
theorem w_273_ok (I : cl_I h C) {v1 v2 : Int32} {y : Int32} (e : jx_A 89 [.ref 200, .int v1, .int v2] h = some (.inl (some (.int y)), h1)) : jx_A 273 [.ref 200, .int v1, .int v2, .ref 719] h = jx_st h1 719 102 0 (.long (cv_I (.int y))) (fun h6 => some (.inl (some (.int 0)), h6)) := by
  rw [a_273, cl_I_is I, jx_hI_e e] <;> rfl
theorem w_273_eIO (I : cl_I h C) {v1 v2 : Int32} (e : jx_A 89 [.ref 200, .int v1, .int v2] h = some (.inr eIO, h1)) : jx_A 273 [.ref 200, .int v1, .int v2, .ref 719] h = some (.inl (some (.int 1)), h1) := by
  rw [a_273, cl_I_is I, jx_hI_x e, jx_hd_y, jx_U_eq, b_273_13]
theorem w_273_eUO (I : cl_I h C) {v1 v2 : Int32} (e : jx_A 89 [.ref 200, .int v1, .int v2] h = some (.inr eUO, h1)) : jx_A 273 [.ref 200, .int v1, .int v2, .ref 719] h = some (.inl (some (.int 2)), h1) := by
  rw [a_273, cl_I_is I, jx_hI_x e, jx_hd_n (by decide), jx_hd_y, jx_U_eq, b_273_17]
theorem w_274_ok (I : cl_I h C) {v1 v2 v3 v4 : Int32} {y : Int32} (e : jx_A 90 [.ref 200, .int v1, .int v2, .int v3, .int v4] h = some (.inl (some (.int y)), h1)) : jx_A 274 [.ref 200, .int v1, .int v2, .int v3, .int v4, .ref 719] h = jx_st h1 719 102 0 (.long (cv_I (.int y))) (fun h6 => some (.inl (some (.int 0)), h6)) := by
  rw [a_274, cl_I_is I, jx_hI_e e] <;> rfl
theorem w_274_eNS (I : cl_I h C) {v1 v2 v3 v4 : Int32} (e : jx_A 90 [.ref 200, .int v1, .int v2, .int v3, .int v4] h = some (.inr eNS, h1)) : jx_A 274 [.ref 200, .int v1, .int v2, .int v3, .int v4, .ref 719] h = some (.inl (some (.int 1)), h1) := by
  rw [a_274, cl_I_is I, jx_hI_x e, jx_hd_y, jx_U_eq, b_274_17]
theorem w_274_eIO (I : cl_I h C) {v1 v2 v3 v4 : Int32} (e : jx_A 90 [.ref 200, .int v1, .int v2, .int v3, .int v4] h = some (.inr eIO, h1)) : jx_A 274 [.ref 200, .int v1, .int v2, .int v3, .int v4, .ref 719] h = some (.inl (some (.int 2)), h1) := by
  rw [a_274, cl_I_is I, jx_hI_x e, jx_hd_n (by decide), jx_hd_y, jx_U_eq, b_274_21]
theorem w_274_eIA (I : cl_I h C) {v1 v2 v3 v4 : Int32} (e : jx_A 90 [.ref 200, .int v1, .int v2, .int v3, .int v4] h = some (.inr eIA, h1)) : jx_A 274 [.ref 200, .int v1, .int v2, .int v3, .int v4, .ref 719] h = some (.inl (some (.int 3)), h1) := by
  rw [a_274, cl_I_is I, jx_hI_x e, jx_hd_n (by decide), jx_hd_n (by decide), jx_hd_y, jx_U_eq, b_274_25]
theorem w_274_eIS (I : cl_I h C) {v1 v2 v3 v4 : Int32} (e : jx_A 90 [.ref 200, .int v1, .int v2, .int v3, .int v4] h = some (.inr eIS, h1)) : jx_A 274 [.ref 200, .int v1, .int v2, .int v3, .int v4, .ref 719] h = some (.inl (some (.int 4)), h1) := by
  rw [a_274, cl_I_is I, jx_hI_x e, jx_hd_n (by decide), jx_hd_n (by decide), jx_hd_n (by decide), jx_hd_y, jx_U_eq, b_274_29]
theorem w_274_eUO (I : cl_I h C) {v1 v2 v3 v4 : Int32} (e : jx_A 90 [.ref 200, .int v1, .int v2, .int v3, .int v4] h = some (.inr eUO, h1)) : jx_A 274 [.ref 200, .int v1, .int v2, .int v3, .int v4, .ref 719] h = some (.inl (some (.int 5)), h1) := by
  rw [a_274, cl_I_is I, jx_hI_x e, jx_hd_n (by decide), jx_hd_n (by decide), jx_hd_n (by decide), jx_hd_n (by decide), jx_hd_y, jx_U_eq, b_274_33]
theorem w_275_ok (I : cl_I h C) {v1 v2 v3 : Int32} {y : Int32} (e : jx_A 91 [.ref 200, .int v1, .int v2, .int v3] h = some (.inl (some (.int y)), h1)) : jx_A 275 [.ref 200, .int v1, .int v2, .int v3, .ref 719] h = jx_st h1 719 102 0 (.long (cv_I (.int y))) (fun h6 => some (.inl (some (.int 0)), h6)) := by
  rw [a_275, cl_I_is I, jx_hI_e e] <;> rfl
theorem w_275_eNS (I : cl_I h C) {v1 v2 v3 : Int32} (e : jx_A 91 [.ref 200, .int v1, .int v2, .int v3] h = some (.inr eNS, h1)) : jx_A 275 [.ref 200, .int v1, .int v2, .int v3, .ref 719] h = some (.inl (some (.int 1)), h1) := by
  rw [a_275, cl_I_is I, jx_hI_x e, jx_hd_y, jx_U_eq, b_275_15]
theorem w_275_eIO (I : cl_I h C) {v1 v2 v3 : Int32} (e : jx_A 91 [.ref 200, .int v1, .int v2, .int v3] h = some (.inr eIO, h1)) : jx_A 275 [.ref 200, .int v1, .int v2, .int v3, .ref 719] h = some (.inl (some (.int 2)), h1) := by
  rw [a_275, cl_I_is I, jx_hI_x e, jx_hd_n (by decide), jx_hd_y, jx_U_eq, b_275_19]
theorem w_275_eIS (I : cl_I h C) {v1 v2 v3 : Int32} (e : jx_A 91 [.ref 200, .int v1, .int v2, .int v3] h = some (.inr eIS, h1)) : jx_A 275 [.ref 200, .int v1, .int v2, .int v3, .ref 719] h = some (.inl (some (.int 3)), h1) := by
  rw [a_275, cl_I_is I, jx_hI_x e, jx_hd_n (by decide), jx_hd_n (by decide), jx_hd_y, jx_U_eq, b_275_23]
theorem w_275_eUO (I : cl_I h C) {v1 v2 v3 : Int32} (e : jx_A 91 [.ref 200, .int v1, .int v2, .int v3] h = some (.inr eUO, h1)) : jx_A 275 [.ref 200, .int v1, .int v2, .int v3, .ref 719] h = some (.inl (some (.int 4)), h1) := by
  rw [a_275, cl_I_is I, jx_hI_x e, jx_hd_n (by decide), jx_hd_n (by decide), jx_hd_n (by decide), jx_hd_y, jx_U_eq, b_275_27]
theorem w_276_ok (I : cl_I h C) {v1 v2 : Int32} {y : Int32} (e : jx_A 92 [.ref 200, .int v1, .int v2] h = some (.inl (some (.int y)), h1)) : jx_A 276 [.ref 200, .int v1, .int v2, .ref 719] h = jx_st h1 719 102 0 (.long (cv_I (.int y))) (fun h6 => some (.inl (some (.int 0)), h6)) := by
  rw [a_276, cl_I_is I, jx_hI_e e] <;> rfl
theorem w_276_eIO (I : cl_I h C) {v1 v2 : Int32} (e : jx_A 92 [.ref 200, .int v1, .int v2] h = some (.inr eIO, h1)) : jx_A 276 [.ref 200, .int v1, .int v2, .ref 719] h = some (.inl (some (.int 1)), h1) := by
  rw [a_276, cl_I_is I, jx_hI_x e, jx_hd_y, jx_U_eq, b_276_13]
theorem w_276_eUO (I : cl_I h C) {v1 v2 : Int32} (e : jx_A 92 [.ref 200, .int v1, .int v2] h = some (.inr eUO, h1)) : jx_A 276 [.ref 200, .int v1, .int v2, .ref 719] h = some (.inl (some (.int 2)), h1) := by
  rw [a_276, cl_I_is I, jx_hI_x e, jx_hd_n (by decide), jx_hd_y, jx_U_eq, b_276_17]
theorem w_276_eNS (I : cl_I h C) {v1 v2 : Int32} (e : jx_A 92 [.ref 200, .int v1, .int v2] h = some (.inr eNS, h1)) : jx_A 276 [.ref 200, .int v1, .int v2, .ref 719] h = some (.inl (some (.int 3)), h1) := by
  rw [a_276, cl_I_is I, jx_hI_x e, jx_hd_n (by decide), jx_hd_n (by decide), jx_hd_y, jx_U_eq, b_276_21]
theorem w_277_ok (I : cl_I h C) {v1 v2 v3 : Int32} {y : Int32} (e : jx_A 93 [.ref 200, .int v1, .int v2, .int v3] h = some (.inl (some (.int y)), h1)) : jx_A 277 [.ref 200, .int v1, .int v2, .int v3, .ref 719] h = jx_st h1 719 102 0 (.long (cv_I (.int y))) (fun h6 => some (.inl (some (.int 0)), h6)) := by
  rw [a_277, cl_I_is I, jx_hI_e e] <;> rfl
theorem w_277_eIO (I : cl_I h C) {v1 v2 v3 : Int32} (e : jx_A 93 [.ref 200, .int v1, .int v2, .int v3] h = some (.inr eIO, h1)) : jx_A 277 [.ref 200, .int v1, .int v2, .int v3, .ref 719] h = some (.inl (some (.int 1)), h1) := by
  rw [a_277, cl_I_is I, jx_hI_x e, jx_hd_y, jx_U_eq, b_277_15]
theorem w_277_eUO (I : cl_I h C) {v1 v2 v3 : Int32} (e : jx_A 93 [.ref 200, .int v1, .int v2, .int v3] h = some (.inr eUO, h1)) : jx_A 277 [.ref 200, .int v1, .int v2, .int v3, .ref 719] h = some (.inl (some (.int 2)), h1) := by
  rw [a_277, cl_I_is I, jx_hI_x e, jx_hd_n (by decide), jx_hd_y, jx_U_eq, b_277_19]
theorem w_277_eNS (I : cl_I h C) {v1 v2 v3 : Int32} (e : jx_A 93 [.ref 200, .int v1, .int v2, .int v3] h = some (.inr eNS, h1)) : jx_A 277 [.ref 200, .int v1, .int v2, .int v3, .ref 719] h = some (.inl (some (.int 3)), h1) := by
  rw [a_277, cl_I_is I, jx_hI_x e, jx_hd_n (by decide), jx_hd_n (by decide), jx_hd_y, jx_U_eq, b_277_23]
theorem w_278_ok (I : cl_I h C) {v1 : Int32} {y : Int32} (e : jx_A 96 [.ref 200, .int v1] h = some (.inl (some (.int y)), h1)) : jx_A 278 [.ref 200, .int v1, .ref 719] h = jx_st h1 719 102 0 (.long (cv_I (.int y))) (fun h6 => some (.inl (some (.int 0)), h6)) := by
  rw [a_278, cl_I_is I, jx_hI_e e] <;> rfl
theorem w_278_eNS (I : cl_I h C) {v1 : Int32} (e : jx_A 96 [.ref 200, .int v1] h = some (.inr eNS, h1)) : jx_A 278 [.ref 200, .int v1, .ref 719] h = some (.inl (some (.int 1)), h1) := by
  rw [a_278, cl_I_is I, jx_hI_x e, jx_hd_y, jx_U_eq, b_278_12]
theorem w_279_ok (I : cl_I h C) {v1 : Int32} {y : Int64} (e : jx_A 97 [.ref 200, .int v1] h = some (.inl (some (.long y)), h1)) : jx_A 279 [.ref 200, .int v1, .ref 719] h = jx_st h1 719 102 0 (.long (cv_I (.long y))) (fun h6 => some (.inl (some (.int 0)), h6)) := by
  rw [a_279, cl_I_is I, jx_hL_e e] <;> rfl
theorem w_279_eNS (I : cl_I h C) {v1 : Int32} (e : jx_A 97 [.ref 200, .int v1] h = some (.inr eNS, h1)) : jx_A 279 [.ref 200, .int v1, .ref 719] h = some (.inl (some (.int 1)), h1) := by
  rw [a_279, cl_I_is I, jx_hL_x e, jx_hd_y, jx_U_eq, b_279_11]
theorem w_280_ok (I : cl_I h C) {y : Int32} (e : jx_A 98 [.ref 200] h = some (.inl (some (.int y)), h1)) : jx_A 280 [.ref 200, .ref 719] h = jx_st h1 719 102 0 (.long (cv_I (.int y))) (fun h6 => some (.inl (some (.int 0)), h6)) := by
  rw [a_280, cl_I_is I, jx_hI_e e] <;> rfl
theorem w_280_eNS (I : cl_I h C) (e : jx_A 98 [.ref 200] h = some (.inr eNS, h1)) : jx_A 280 [.ref 200, .ref 719] h = some (.inl (some (.int 1)), h1) := by
  rw [a_280, cl_I_is I, jx_hI_x e, jx_hd_y, jx_U_eq, b_280_11]
theorem w_281_eAR (I : cl_I h C) (e : jx_A 99 [.ref 200] h = some (.inr eAR, h1)) : jx_A 281 [.ref 200, .ref 720] h = some (.inl (some (.int 1)), h1) := by
  rw [a_281, cl_I_is I, jx_hF_x e, jx_hd_y, jx_U_eq, b_281_11]
theorem w_282_ok (I : cl_I h C) {y : Int32} (e : jx_A 100 [.ref 200] h = some (.inl (some (.int y)), h1)) : jx_A 282 [.ref 200, .ref 719] h = jx_st h1 719 102 0 (.long (cv_I (.int y))) (fun h6 => some (.inl (some (.int 0)), h6)) := by
  rw [a_282, cl_I_is I, jx_hI_e e] <;> rfl
theorem w_282_eAR (I : cl_I h C) (e : jx_A 100 [.ref 200] h = some (.inr eAR, h1)) : jx_A 282 [.ref 200, .ref 719] h = some (.inl (some (.int 1)), h1) := by
  rw [a_282, cl_I_is I, jx_hI_x e, jx_hd_y, jx_U_eq, b_282_11]
theorem w_283_eAR (I : cl_I h C) (e : jx_A 101 [.ref 200] h = some (.inr eAR, h1)) : jx_A 283 [.ref 200, .ref 720] h = some (.inl (some (.int 1)), h1) := by
  rw [a_283, cl_I_is I, jx_hD_x e, jx_hd_y, jx_U_eq, b_283_10]
theorem w_284_ok (I : cl_I h C) {v1 : Int32} {y : Int32} (e : jx_A 103 [.ref 200, .int v1] h = some (.inl (some (.int y)), h1)) : jx_A 284 [.ref 200, .int v1, .ref 719] h = jx_st h1 719 102 0 (.long (cv_I (.int y))) (fun h6 => some (.inl (some (.int 0)), h6)) := by
  rw [a_284, cl_I_is I, jx_hI_e e] <;> rfl
theorem w_284_eIO (I : cl_I h C) {v1 : Int32} (e : jx_A 103 [.ref 200, .int v1] h = some (.inr eIO, h1)) : jx_A 284 [.ref 200, .int v1, .ref 719] h = some (.inl (some (.int 1)), h1) := by
  rw [a_284, cl_I_is I, jx_hI_x e, jx_hd_y, jx_U_eq, b_284_12]
theorem w_285_ok (I : cl_I h C) {v1 : Int32} {y : Int32} (e : jx_A 104 [.ref 200, .int v1] h = some (.inl (some (.int y)), h1)) : jx_A 285 [.ref 200, .int v1, .ref 719] h = jx_st h1 719 102 0 (.long (cv_I (.int y))) (fun h6 => some (.inl (some (.int 0)), h6)) := by
  rw [a_285, cl_I_is I, jx_hI_e e] <;> rfl
theorem w_285_eNS (I : cl_I h C) {v1 : Int32} (e : jx_A 104 [.ref 200, .int v1] h = some (.inr eNS, h1)) : jx_A 285 [.ref 200, .int v1, .ref 719] h = some (.inl (some (.int 1)), h1) := by
  rw [a_285, cl_I_is I, jx_hI_x e, jx_hd_y, jx_U_eq, b_285_12]
theorem w_286_ok (I : cl_I h C) {v1 : Int32} {y : Int32} (e : jx_A 105 [.ref 200, .int v1] h = some (.inl (some (.int y)), h1)) : jx_A 286 [.ref 200, .int v1, .ref 719] h = jx_st h1 719 102 0 (.long (cv_I (.int y))) (fun h6 => some (.inl (some (.int 0)), h6)) := by
  rw [a_286, cl_I_is I, jx_hI_e e] <;> rfl
theorem w_286_eIO (I : cl_I h C) {v1 : Int32} (e : jx_A 105 [.ref 200, .int v1] h = some (.inr eIO, h1)) : jx_A 286 [.ref 200, .int v1, .ref 719] h = some (.inl (some (.int 1)), h1) := by
  rw [a_286, cl_I_is I, jx_hI_x e, jx_hd_y, jx_U_eq, b_286_12]
theorem w_287_ok (I : cl_I h C) {v1 : Int32} {y : Int32} (e : jx_A 106 [.ref 200, .int v1] h = some (.inl (some (.int y)), h1)) : jx_A 287 [.ref 200, .int v1, .ref 719] h = jx_st h1 719 102 0 (.long (cv_I (.int y))) (fun h6 => some (.inl (some (.int 0)), h6)) := by
  rw [a_287, cl_I_is I, jx_hI_e e] <;> rfl
theorem w_287_eIS (I : cl_I h C) {v1 : Int32} (e : jx_A 106 [.ref 200, .int v1] h = some (.inr eIS, h1)) : jx_A 287 [.ref 200, .int v1, .ref 719] h = some (.inl (some (.int 1)), h1) := by
  rw [a_287, cl_I_is I, jx_hI_x e, jx_hd_y, jx_U_eq, b_287_12]
theorem w_288_ok (I : cl_I h C) {y : Int32} (e : jx_A 107 [.ref 200] h = some (.inl (some (.int y)), h1)) : jx_A 288 [.ref 200, .ref 719] h = jx_st h1 719 102 0 (.long (cv_I (.int y))) (fun h6 => some (.inl (some (.int 0)), h6)) := by
  rw [a_288, cl_I_is I, jx_hI_e e] <;> rfl
theorem w_288_eIA (I : cl_I h C) (e : jx_A 107 [.ref 200] h = some (.inr eIA, h1)) : jx_A 288 [.ref 200, .ref 719] h = some (.inl (some (.int 1)), h1) := by
  rw [a_288, cl_I_is I, jx_hI_x e, jx_hd_y, jx_U_eq, b_288_11]
theorem w_288_eUO (I : cl_I h C) (e : jx_A 107 [.ref 200] h = some (.inr eUO, h1)) : jx_A 288 [.ref 200, .ref 719] h = some (.inl (some (.int 2)), h1) := by
  rw [a_288, cl_I_is I, jx_hI_x e, jx_hd_n (by decide), jx_hd_y, jx_U_eq, b_288_14]
theorem w_289_ok (I : cl_I h C) {y : Int32} (e : jx_A 108 [.ref 200] h = some (.inl (some (.int y)), h1)) : jx_A 289 [.ref 200, .ref 719] h = jx_st h1 719 102 0 (.long (cv_I (.int y))) (fun h6 => some (.inl (some (.int 0)), h6)) := by
  rw [a_289, cl_I_is I, jx_hI_e e] <;> rfl
theorem w_289_eNS (I : cl_I h C) (e : jx_A 108 [.ref 200] h = some (.inr eNS, h1)) : jx_A 289 [.ref 200, .ref 719] h = some (.inl (some (.int 1)), h1) := by
  rw [a_289, cl_I_is I, jx_hI_x e, jx_hd_y, jx_U_eq, b_289_11]
theorem w_290_ok (I : cl_I h C) {y : Int32} (e : jx_A 109 [.ref 200] h = some (.inl (some (.int y)), h1)) : jx_A 290 [.ref 200, .ref 719] h = jx_st h1 719 102 0 (.long (cv_I (.int y))) (fun h6 => some (.inl (some (.int 0)), h6)) := by
  rw [a_290, cl_I_is I, jx_hI_e e] <;> rfl
theorem w_290_eNS (I : cl_I h C) (e : jx_A 109 [.ref 200] h = some (.inr eNS, h1)) : jx_A 290 [.ref 200, .ref 719] h = some (.inl (some (.int 1)), h1) := by
  rw [a_290, cl_I_is I, jx_hI_x e, jx_hd_y, jx_U_eq, b_290_11]
theorem w_291_ok (I : cl_I h C) {y : Int32} (e : jx_A 110 [.ref 200] h = some (.inl (some (.int y)), h1)) : jx_A 291 [.ref 200, .ref 719] h = jx_st h1 719 102 0 (.long (cv_I (.int y))) (fun h6 => some (.inl (some (.int 0)), h6)) := by
  rw [a_291, cl_I_is I, jx_hI_e e] <;> rfl
theorem w_291_eIS (I : cl_I h C) (e : jx_A 110 [.ref 200] h = some (.inr eIS, h1)) : jx_A 291 [.ref 200, .ref 719] h = some (.inl (some (.int 1)), h1) := by
  rw [a_291, cl_I_is I, jx_hI_x e, jx_hd_y, jx_U_eq, b_291_11]
theorem w_292_ok (I : cl_I h C) {y : Int32} (e : jx_A 113 [.ref 200] h = some (.inl (some (.int y)), h1)) : jx_A 292 [.ref 200, .ref 719] h = jx_st h1 719 102 0 (.long (cv_I (.int y))) (fun h6 => some (.inl (some (.int 0)), h6)) := by
  rw [a_292, cl_I_is I, jx_hI_e e] <;> rfl
theorem w_292_eIS (I : cl_I h C) (e : jx_A 113 [.ref 200] h = some (.inr eIS, h1)) : jx_A 292 [.ref 200, .ref 719] h = some (.inl (some (.int 1)), h1) := by
  rw [a_292, cl_I_is I, jx_hI_x e, jx_hd_y, jx_U_eq, b_292_11]
end WR
end JX
