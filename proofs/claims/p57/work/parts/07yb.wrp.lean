/-! The wrappers: the answer, or a number for an exception. -/
section JX
section WR
variable {h h1 : jx_H} {C : cl_T}
theorem w_133_ok (I : cl_I h C) {v1 v2 v3 v4 v5 : Int32} {y : Int32} (e : jx_A 60 [.ref 200, .int v1, .int v2, .int v3, .int v4, .int v5] h = some (.inl (some (.int y)), h1)) : jx_A 133 [.ref 200, .int v1, .int v2, .int v3, .int v4, .int v5] h = some (.inl (some (.int y)), h1) := by
  rw [a_133, cl_I_is I, jx_hI_e e]
theorem w_133_eIA (I : cl_I h C) {v1 v2 v3 v4 v5 : Int32} (e : jx_A 60 [.ref 200, .int v1, .int v2, .int v3, .int v4, .int v5] h = some (.inr eIA, h1)) : jx_A 133 [.ref 200, .int v1, .int v2, .int v3, .int v4, .int v5] h = some (.inl (some (.int (-1))), h1) := by
  rw [a_133, cl_I_is I, jx_hI_x e, jx_hd_y, jx_U_eq, b_133_12]
theorem w_133_eIS (I : cl_I h C) {v1 v2 v3 v4 v5 : Int32} (e : jx_A 60 [.ref 200, .int v1, .int v2, .int v3, .int v4, .int v5] h = some (.inr eIS, h1)) : jx_A 133 [.ref 200, .int v1, .int v2, .int v3, .int v4, .int v5] h = some (.inl (some (.int (-2))), h1) := by
  rw [a_133, cl_I_is I, jx_hI_x e, jx_hd_n (by decide), jx_hd_y, jx_U_eq, b_133_16]
theorem w_134_ok (I : cl_I h C) {v1 : Int32} {y : Int32} (e : jx_A 61 [.ref 200, .int v1] h = some (.inl (some (.int y)), h1)) : jx_A 134 [.ref 200, .int v1] h = some (.inl (some (.int y)), h1) := by
  rw [a_134, cl_I_is I, jx_hI_e e]
theorem w_134_eNS (I : cl_I h C) {v1 : Int32} (e : jx_A 61 [.ref 200, .int v1] h = some (.inr eNS, h1)) : jx_A 134 [.ref 200, .int v1] h = some (.inl (some (.int (-1))), h1) := by
  rw [a_134, cl_I_is I, jx_hI_x e, jx_hd_y, jx_U_eq, b_134_6]
theorem w_134_eIS (I : cl_I h C) {v1 : Int32} (e : jx_A 61 [.ref 200, .int v1] h = some (.inr eIS, h1)) : jx_A 134 [.ref 200, .int v1] h = some (.inl (some (.int (-2))), h1) := by
  rw [a_134, cl_I_is I, jx_hI_x e, jx_hd_n (by decide), jx_hd_y, jx_U_eq, b_134_9]
theorem w_135_ok (I : cl_I h C) {v1 : Int32} {y : Int32} (e : jx_A 64 [.ref 200, .int v1] h = some (.inl (some (.int y)), h1)) : jx_A 135 [.ref 200, .int v1] h = some (.inl (some (.int y)), h1) := by
  rw [a_135, cl_I_is I, jx_hI_e e]
theorem w_135_eIO (I : cl_I h C) {v1 : Int32} (e : jx_A 64 [.ref 200, .int v1] h = some (.inr eIO, h1)) : jx_A 135 [.ref 200, .int v1] h = some (.inl (some (.int (-11))), h1) := by
  rw [a_135, cl_I_is I, jx_hI_x e, jx_hd_y, jx_U_eq, b_135_6]
theorem w_136_ok (I : cl_I h C) {v1 : Int32} {y : Int32} (e : jx_A 66 [.ref 200, .int v1] h = some (.inl (some (.int y)), h1)) : jx_A 136 [.ref 200, .int v1] h = some (.inl (some (.int y)), h1) := by
  rw [a_136, cl_I_is I, jx_hI_e e]
theorem w_136_eNS (I : cl_I h C) {v1 : Int32} (e : jx_A 66 [.ref 200, .int v1] h = some (.inr eNS, h1)) : jx_A 136 [.ref 200, .int v1] h = some (.inl (some (.int (-13))), h1) := by
  rw [a_136, cl_I_is I, jx_hI_x e, jx_hd_y, jx_U_eq, b_136_6]
theorem w_137_ok (I : cl_I h C) {v1 : Int32} {y : Int32} (e : jx_A 67 [.ref 200, .int v1] h = some (.inl (some (.int y)), h1)) : jx_A 137 [.ref 200, .int v1] h = some (.inl (some (.int y)), h1) := by
  rw [a_137, cl_I_is I, jx_hI_e e]
theorem w_137_eNS (I : cl_I h C) {v1 : Int32} (e : jx_A 67 [.ref 200, .int v1] h = some (.inr eNS, h1)) : jx_A 137 [.ref 200, .int v1] h = some (.inl (some (.int (-13))), h1) := by
  rw [a_137, cl_I_is I, jx_hI_x e, jx_hd_y, jx_U_eq, b_137_6]
theorem w_138_ok (I : cl_I h C) {v1 v2 : Int32} {y : Int32} (e : jx_A 68 [.ref 200, .int v1, .int v2] h = some (.inl (some (.int y)), h1)) : jx_A 138 [.ref 200, .int v1, .int v2] h = some (.inl (some (.int y)), h1) := by
  rw [a_138, cl_I_is I, jx_hI_e e]
theorem w_138_eNS (I : cl_I h C) {v1 v2 : Int32} (e : jx_A 68 [.ref 200, .int v1, .int v2] h = some (.inr eNS, h1)) : jx_A 138 [.ref 200, .int v1, .int v2] h = some (.inl (some (.int (-13))), h1) := by
  rw [a_138, cl_I_is I, jx_hI_x e, jx_hd_y, jx_U_eq, b_138_7]
theorem w_138_eIA (I : cl_I h C) {v1 v2 : Int32} (e : jx_A 68 [.ref 200, .int v1, .int v2] h = some (.inr eIA, h1)) : jx_A 138 [.ref 200, .int v1, .int v2] h = some (.inl (some (.int (-12))), h1) := by
  rw [a_138, cl_I_is I, jx_hI_x e, jx_hd_n (by decide), jx_hd_y, jx_U_eq, b_138_11]
theorem w_139_ok (I : cl_I h C) {v1 : Int32} {b : Bool} (e : jx_A 69 [.ref 200, .int v1] h = some (.inl (some (.int (bI b))), h1)) : jx_A 139 [.ref 200, .int v1] h = some (.inl (some (.int (bI b))), h1) := by
  rw [a_139, cl_I_is I, jx_hI_e e]
  cases b with
  | true => rfl
  | false => rfl
theorem w_139_eNS (I : cl_I h C) {v1 : Int32} (e : jx_A 69 [.ref 200, .int v1] h = some (.inr eNS, h1)) : jx_A 139 [.ref 200, .int v1] h = some (.inl (some (.int (-13))), h1) := by
  rw [a_139, cl_I_is I, jx_hI_x e, jx_hd_y, jx_U_eq, b_139_14]
theorem w_140_ok (I : cl_I h C) {v1 : Int32} {y : Int32} (e : jx_A 70 [.ref 200, .int v1] h = some (.inl (some (.int y)), h1)) : jx_A 140 [.ref 200, .int v1] h = some (.inl (some (.int y)), h1) := by
  rw [a_140, cl_I_is I, jx_hI_e e]
theorem w_140_eNS (I : cl_I h C) {v1 : Int32} (e : jx_A 70 [.ref 200, .int v1] h = some (.inr eNS, h1)) : jx_A 140 [.ref 200, .int v1] h = some (.inl (some (.int (-13))), h1) := by
  rw [a_140, cl_I_is I, jx_hI_x e, jx_hd_y, jx_U_eq, b_140_6]
theorem w_141_ok (I : cl_I h C) {v1 v2 v3 : Int32} {y : Int32} (e : jx_A 72 [.ref 200, .int v1, .int v2, .int v3] h = some (.inl (some (.int y)), h1)) : jx_A 141 [.ref 200, .int v1, .int v2, .int v3] h = some (.inl (some (.int y)), h1) := by
  rw [a_141, cl_I_is I, jx_hI_e e]
theorem w_141_eNS (I : cl_I h C) {v1 v2 v3 : Int32} (e : jx_A 72 [.ref 200, .int v1, .int v2, .int v3] h = some (.inr eNS, h1)) : jx_A 141 [.ref 200, .int v1, .int v2, .int v3] h = some (.inl (some (.int (-1))), h1) := by
  rw [a_141, cl_I_is I, jx_hI_x e, jx_hd_y, jx_U_eq, b_141_8]
theorem w_141_eIO (I : cl_I h C) {v1 v2 v3 : Int32} (e : jx_A 72 [.ref 200, .int v1, .int v2, .int v3] h = some (.inr eIO, h1)) : jx_A 141 [.ref 200, .int v1, .int v2, .int v3] h = some (.inl (some (.int (-2))), h1) := by
  rw [a_141, cl_I_is I, jx_hI_x e, jx_hd_n (by decide), jx_hd_y, jx_U_eq, b_141_12]
theorem w_141_eIS (I : cl_I h C) {v1 v2 v3 : Int32} (e : jx_A 72 [.ref 200, .int v1, .int v2, .int v3] h = some (.inr eIS, h1)) : jx_A 141 [.ref 200, .int v1, .int v2, .int v3] h = some (.inl (some (.int (-3))), h1) := by
  rw [a_141, cl_I_is I, jx_hI_x e, jx_hd_n (by decide), jx_hd_n (by decide), jx_hd_y, jx_U_eq, b_141_17]
theorem w_142_ok (I : cl_I h C) {v1 : Int32} {y : Int32} (e : jx_A 73 [.ref 200, .int v1] h = some (.inl (some (.int y)), h1)) : jx_A 142 [.ref 200, .int v1] h = some (.inl (some (.int y)), h1) := by
  rw [a_142, cl_I_is I, jx_hI_e e]
theorem w_142_eNS (I : cl_I h C) {v1 : Int32} (e : jx_A 73 [.ref 200, .int v1] h = some (.inr eNS, h1)) : jx_A 142 [.ref 200, .int v1] h = some (.inl (some (.int (-1))), h1) := by
  rw [a_142, cl_I_is I, jx_hI_x e, jx_hd_y, jx_U_eq, b_142_6]
theorem w_142_eIS (I : cl_I h C) {v1 : Int32} (e : jx_A 73 [.ref 200, .int v1] h = some (.inr eIS, h1)) : jx_A 142 [.ref 200, .int v1] h = some (.inl (some (.int (-2))), h1) := by
  rw [a_142, cl_I_is I, jx_hI_x e, jx_hd_n (by decide), jx_hd_y, jx_U_eq, b_142_9]
theorem w_143_ok (I : cl_I h C) {v1 v2 : Int32} {y : Int32} (e : jx_A 74 [.ref 200, .int v1, .int v2] h = some (.inl (some (.int y)), h1)) : jx_A 143 [.ref 200, .int v1, .int v2] h = some (.inl (some (.int y)), h1) := by
  rw [a_143, cl_I_is I, jx_hI_e e]
theorem w_143_eNS (I : cl_I h C) {v1 v2 : Int32} (e : jx_A 74 [.ref 200, .int v1, .int v2] h = some (.inr eNS, h1)) : jx_A 143 [.ref 200, .int v1, .int v2] h = some (.inl (some (.int (-1))), h1) := by
  rw [a_143, cl_I_is I, jx_hI_x e, jx_hd_y, jx_U_eq, b_143_7]
theorem w_143_eIA (I : cl_I h C) {v1 v2 : Int32} (e : jx_A 74 [.ref 200, .int v1, .int v2] h = some (.inr eIA, h1)) : jx_A 143 [.ref 200, .int v1, .int v2] h = some (.inl (some (.int (-2))), h1) := by
  rw [a_143, cl_I_is I, jx_hI_x e, jx_hd_n (by decide), jx_hd_y, jx_U_eq, b_143_10]
theorem w_144_ok (I : cl_I h C) {v1 v2 : Int32} {y : Int32} (e : jx_A 75 [.ref 200, .int v1, .int v2] h = some (.inl (some (.int y)), h1)) : jx_A 144 [.ref 200, .int v1, .int v2] h = some (.inl (some (.int y)), h1) := by
  rw [a_144, cl_I_is I, jx_hI_e e]
theorem w_144_eNS (I : cl_I h C) {v1 v2 : Int32} (e : jx_A 75 [.ref 200, .int v1, .int v2] h = some (.inr eNS, h1)) : jx_A 144 [.ref 200, .int v1, .int v2] h = some (.inl (some (.int (-1))), h1) := by
  rw [a_144, cl_I_is I, jx_hI_x e, jx_hd_y, jx_U_eq, b_144_7]
theorem w_144_eIA (I : cl_I h C) {v1 v2 : Int32} (e : jx_A 75 [.ref 200, .int v1, .int v2] h = some (.inr eIA, h1)) : jx_A 144 [.ref 200, .int v1, .int v2] h = some (.inl (some (.int (-2))), h1) := by
  rw [a_144, cl_I_is I, jx_hI_x e, jx_hd_n (by decide), jx_hd_y, jx_U_eq, b_144_10]
theorem w_144_eIS (I : cl_I h C) {v1 v2 : Int32} (e : jx_A 75 [.ref 200, .int v1, .int v2] h = some (.inr eIS, h1)) : jx_A 144 [.ref 200, .int v1, .int v2] h = some (.inl (some (.int (-3))), h1) := by
  rw [a_144, cl_I_is I, jx_hI_x e, jx_hd_n (by decide), jx_hd_n (by decide), jx_hd_y, jx_U_eq, b_144_14]
theorem w_145_ok (I : cl_I h C) {v1 v2 : Int32} {y : Int32} (e : jx_A 76 [.ref 200, .int v1, .int v2] h = some (.inl (some (.int y)), h1)) : jx_A 145 [.ref 200, .int v1, .int v2] h = some (.inl (some (.int y)), h1) := by
  rw [a_145, cl_I_is I, jx_hI_e e]
theorem w_145_eIO (I : cl_I h C) {v1 v2 : Int32} (e : jx_A 76 [.ref 200, .int v1, .int v2] h = some (.inr eIO, h1)) : jx_A 145 [.ref 200, .int v1, .int v2] h = some (.inl (some (.int (-1))), h1) := by
  rw [a_145, cl_I_is I, jx_hI_x e, jx_hd_y, jx_U_eq, b_145_7]
theorem w_145_eUO (I : cl_I h C) {v1 v2 : Int32} (e : jx_A 76 [.ref 200, .int v1, .int v2] h = some (.inr eUO, h1)) : jx_A 145 [.ref 200, .int v1, .int v2] h = some (.inl (some (.int (-2))), h1) := by
  rw [a_145, cl_I_is I, jx_hI_x e, jx_hd_n (by decide), jx_hd_y, jx_U_eq, b_145_10]
theorem w_145_eNS (I : cl_I h C) {v1 v2 : Int32} (e : jx_A 76 [.ref 200, .int v1, .int v2] h = some (.inr eNS, h1)) : jx_A 145 [.ref 200, .int v1, .int v2] h = some (.inl (some (.int (-3))), h1) := by
  rw [a_145, cl_I_is I, jx_hI_x e, jx_hd_n (by decide), jx_hd_n (by decide), jx_hd_y, jx_U_eq, b_145_14]
theorem w_146_ok (I : cl_I h C) {v1 v2 : Int32} {b : Bool} (e : jx_A 78 [.ref 200, .int v1, .int v2] h = some (.inl (some (.int (bI b))), h1)) : jx_A 146 [.ref 200, .int v1, .int v2] h = some (.inl (some (.int (bI b))), h1) := by
  rw [a_146, cl_I_is I, jx_hI_e e]
  cases b with
  | true => rfl
  | false => rfl
theorem w_146_eIO (I : cl_I h C) {v1 v2 : Int32} (e : jx_A 78 [.ref 200, .int v1, .int v2] h = some (.inr eIO, h1)) : jx_A 146 [.ref 200, .int v1, .int v2] h = some (.inl (some (.int (-11))), h1) := by
  rw [a_146, cl_I_is I, jx_hI_x e, jx_hd_y, jx_U_eq, b_146_15]
theorem w_147_ok (I : cl_I h C) {v1 v2 : Int32} {y : Int32} (e : jx_A 79 [.ref 200, .int v1, .int v2] h = some (.inl (some (.int y)), h1)) : jx_A 147 [.ref 200, .int v1, .int v2] h = some (.inl (some (.int y)), h1) := by
  rw [a_147, cl_I_is I, jx_hI_e e]
theorem w_147_eIO (I : cl_I h C) {v1 v2 : Int32} (e : jx_A 79 [.ref 200, .int v1, .int v2] h = some (.inr eIO, h1)) : jx_A 147 [.ref 200, .int v1, .int v2] h = some (.inl (some (.int (-11))), h1) := by
  rw [a_147, cl_I_is I, jx_hI_x e, jx_hd_y, jx_U_eq, b_147_7]
theorem w_147_eNS (I : cl_I h C) {v1 v2 : Int32} (e : jx_A 79 [.ref 200, .int v1, .int v2] h = some (.inr eNS, h1)) : jx_A 147 [.ref 200, .int v1, .int v2] h = some (.inl (some (.int (-13))), h1) := by
  rw [a_147, cl_I_is I, jx_hI_x e, jx_hd_n (by decide), jx_hd_y, jx_U_eq, b_147_11]
theorem w_148_ok (I : cl_I h C) {v1 v2 : Int32} {b : Bool} (e : jx_A 87 [.ref 200, .int v1, .int v2] h = some (.inl (some (.int (bI b))), h1)) : jx_A 148 [.ref 200, .int v1, .int v2] h = some (.inl (some (.int (bI b))), h1) := by
  rw [a_148, cl_I_is I, jx_hI_e e]
  cases b with
  | true => rfl
  | false => rfl
theorem w_148_eNS (I : cl_I h C) {v1 v2 : Int32} (e : jx_A 87 [.ref 200, .int v1, .int v2] h = some (.inr eNS, h1)) : jx_A 148 [.ref 200, .int v1, .int v2] h = some (.inl (some (.int (-13))), h1) := by
  rw [a_148, cl_I_is I, jx_hI_x e, jx_hd_y, jx_U_eq, b_148_15]
theorem w_148_eIA (I : cl_I h C) {v1 v2 : Int32} (e : jx_A 87 [.ref 200, .int v1, .int v2] h = some (.inr eIA, h1)) : jx_A 148 [.ref 200, .int v1, .int v2] h = some (.inl (some (.int (-12))), h1) := by
  rw [a_148, cl_I_is I, jx_hI_x e, jx_hd_n (by decide), jx_hd_y, jx_U_eq, b_148_19]
theorem w_149_ok (I : cl_I h C) {v1 : Int32} {y : Int32} (e : jx_A 88 [.ref 200, .int v1] h = some (.inl (some (.int y)), h1)) : jx_A 149 [.ref 200, .int v1] h = some (.inl (some (.int y)), h1) := by
  rw [a_149, cl_I_is I, jx_hI_e e]
theorem w_149_eNS (I : cl_I h C) {v1 : Int32} (e : jx_A 88 [.ref 200, .int v1] h = some (.inr eNS, h1)) : jx_A 149 [.ref 200, .int v1] h = some (.inl (some (.int (-13))), h1) := by
  rw [a_149, cl_I_is I, jx_hI_x e, jx_hd_y, jx_U_eq, b_149_6]
theorem w_150_ok (I : cl_I h C) {v1 v2 : Int32} {y : Int32} (e : jx_A 89 [.ref 200, .int v1, .int v2] h = some (.inl (some (.int y)), h1)) : jx_A 150 [.ref 200, .int v1, .int v2] h = some (.inl (some (.int y)), h1) := by
  rw [a_150, cl_I_is I, jx_hI_e e]
theorem w_150_eIO (I : cl_I h C) {v1 v2 : Int32} (e : jx_A 89 [.ref 200, .int v1, .int v2] h = some (.inr eIO, h1)) : jx_A 150 [.ref 200, .int v1, .int v2] h = some (.inl (some (.int (-11))), h1) := by
  rw [a_150, cl_I_is I, jx_hI_x e, jx_hd_y, jx_U_eq, b_150_7]
theorem w_150_eUO (I : cl_I h C) {v1 v2 : Int32} (e : jx_A 89 [.ref 200, .int v1, .int v2] h = some (.inr eUO, h1)) : jx_A 150 [.ref 200, .int v1, .int v2] h = some (.inl (some (.int (-15))), h1) := by
  rw [a_150, cl_I_is I, jx_hI_x e, jx_hd_n (by decide), jx_hd_y, jx_U_eq, b_150_11]
theorem w_151_ok (I : cl_I h C) {v1 v2 v3 v4 : Int32} {y : Int32} (e : jx_A 90 [.ref 200, .int v1, .int v2, .int v3, .int v4] h = some (.inl (some (.int y)), h1)) : jx_A 151 [.ref 200, .int v1, .int v2, .int v3, .int v4] h = some (.inl (some (.int y)), h1) := by
  rw [a_151, cl_I_is I, jx_hI_e e]
theorem w_151_eNS (I : cl_I h C) {v1 v2 v3 v4 : Int32} (e : jx_A 90 [.ref 200, .int v1, .int v2, .int v3, .int v4] h = some (.inr eNS, h1)) : jx_A 151 [.ref 200, .int v1, .int v2, .int v3, .int v4] h = some (.inl (some (.int (-113))), h1) := by
  rw [a_151, cl_I_is I, jx_hI_x e, jx_hd_y, jx_U_eq, b_151_10]
theorem w_151_eIO (I : cl_I h C) {v1 v2 v3 v4 : Int32} (e : jx_A 90 [.ref 200, .int v1, .int v2, .int v3, .int v4] h = some (.inr eIO, h1)) : jx_A 151 [.ref 200, .int v1, .int v2, .int v3, .int v4] h = some (.inl (some (.int (-111))), h1) := by
  rw [a_151, cl_I_is I, jx_hI_x e, jx_hd_n (by decide), jx_hd_y, jx_U_eq, b_151_15]
theorem w_151_eIA (I : cl_I h C) {v1 v2 v3 v4 : Int32} (e : jx_A 90 [.ref 200, .int v1, .int v2, .int v3, .int v4] h = some (.inr eIA, h1)) : jx_A 151 [.ref 200, .int v1, .int v2, .int v3, .int v4] h = some (.inl (some (.int (-112))), h1) := by
  rw [a_151, cl_I_is I, jx_hI_x e, jx_hd_n (by decide), jx_hd_n (by decide), jx_hd_y, jx_U_eq, b_151_20]
theorem w_151_eIS (I : cl_I h C) {v1 v2 v3 v4 : Int32} (e : jx_A 90 [.ref 200, .int v1, .int v2, .int v3, .int v4] h = some (.inr eIS, h1)) : jx_A 151 [.ref 200, .int v1, .int v2, .int v3, .int v4] h = some (.inl (some (.int (-114))), h1) := by
  rw [a_151, cl_I_is I, jx_hI_x e, jx_hd_n (by decide), jx_hd_n (by decide), jx_hd_n (by decide), jx_hd_y, jx_U_eq, b_151_25]
theorem w_151_eUO (I : cl_I h C) {v1 v2 v3 v4 : Int32} (e : jx_A 90 [.ref 200, .int v1, .int v2, .int v3, .int v4] h = some (.inr eUO, h1)) : jx_A 151 [.ref 200, .int v1, .int v2, .int v3, .int v4] h = some (.inl (some (.int (-115))), h1) := by
  rw [a_151, cl_I_is I, jx_hI_x e, jx_hd_n (by decide), jx_hd_n (by decide), jx_hd_n (by decide), jx_hd_n (by decide), jx_hd_y, jx_U_eq, b_151_30]
theorem w_152_ok (I : cl_I h C) {v1 v2 v3 : Int32} {y : Int32} (e : jx_A 91 [.ref 200, .int v1, .int v2, .int v3] h = some (.inl (some (.int y)), h1)) : jx_A 152 [.ref 200, .int v1, .int v2, .int v3] h = some (.inl (some (.int y)), h1) := by
  rw [a_152, cl_I_is I, jx_hI_e e]
theorem w_152_eNS (I : cl_I h C) {v1 v2 v3 : Int32} (e : jx_A 91 [.ref 200, .int v1, .int v2, .int v3] h = some (.inr eNS, h1)) : jx_A 152 [.ref 200, .int v1, .int v2, .int v3] h = some (.inl (some (.int (-13))), h1) := by
  rw [a_152, cl_I_is I, jx_hI_x e, jx_hd_y, jx_U_eq, b_152_8]
theorem w_152_eIO (I : cl_I h C) {v1 v2 v3 : Int32} (e : jx_A 91 [.ref 200, .int v1, .int v2, .int v3] h = some (.inr eIO, h1)) : jx_A 152 [.ref 200, .int v1, .int v2, .int v3] h = some (.inl (some (.int (-11))), h1) := by
  rw [a_152, cl_I_is I, jx_hI_x e, jx_hd_n (by decide), jx_hd_y, jx_U_eq, b_152_13]
theorem w_152_eIS (I : cl_I h C) {v1 v2 v3 : Int32} (e : jx_A 91 [.ref 200, .int v1, .int v2, .int v3] h = some (.inr eIS, h1)) : jx_A 152 [.ref 200, .int v1, .int v2, .int v3] h = some (.inl (some (.int (-14))), h1) := by
  rw [a_152, cl_I_is I, jx_hI_x e, jx_hd_n (by decide), jx_hd_n (by decide), jx_hd_y, jx_U_eq, b_152_18]
theorem w_152_eUO (I : cl_I h C) {v1 v2 v3 : Int32} (e : jx_A 91 [.ref 200, .int v1, .int v2, .int v3] h = some (.inr eUO, h1)) : jx_A 152 [.ref 200, .int v1, .int v2, .int v3] h = some (.inl (some (.int (-15))), h1) := by
  rw [a_152, cl_I_is I, jx_hI_x e, jx_hd_n (by decide), jx_hd_n (by decide), jx_hd_n (by decide), jx_hd_y, jx_U_eq, b_152_23]
theorem w_153_ok (I : cl_I h C) {v1 v2 : Int32} {y : Int32} (e : jx_A 92 [.ref 200, .int v1, .int v2] h = some (.inl (some (.int y)), h1)) : jx_A 153 [.ref 200, .int v1, .int v2] h = some (.inl (some (.int y)), h1) := by
  rw [a_153, cl_I_is I, jx_hI_e e]
theorem w_153_eIO (I : cl_I h C) {v1 v2 : Int32} (e : jx_A 92 [.ref 200, .int v1, .int v2] h = some (.inr eIO, h1)) : jx_A 153 [.ref 200, .int v1, .int v2] h = some (.inl (some (.int (-11))), h1) := by
  rw [a_153, cl_I_is I, jx_hI_x e, jx_hd_y, jx_U_eq, b_153_7]
theorem w_153_eUO (I : cl_I h C) {v1 v2 : Int32} (e : jx_A 92 [.ref 200, .int v1, .int v2] h = some (.inr eUO, h1)) : jx_A 153 [.ref 200, .int v1, .int v2] h = some (.inl (some (.int (-15))), h1) := by
  rw [a_153, cl_I_is I, jx_hI_x e, jx_hd_n (by decide), jx_hd_y, jx_U_eq, b_153_11]
theorem w_153_eNS (I : cl_I h C) {v1 v2 : Int32} (e : jx_A 92 [.ref 200, .int v1, .int v2] h = some (.inr eNS, h1)) : jx_A 153 [.ref 200, .int v1, .int v2] h = some (.inl (some (.int (-13))), h1) := by
  rw [a_153, cl_I_is I, jx_hI_x e, jx_hd_n (by decide), jx_hd_n (by decide), jx_hd_y, jx_U_eq, b_153_15]
theorem w_154_ok (I : cl_I h C) {v1 v2 v3 : Int32} {y : Int32} (e : jx_A 93 [.ref 200, .int v1, .int v2, .int v3] h = some (.inl (some (.int y)), h1)) : jx_A 154 [.ref 200, .int v1, .int v2, .int v3] h = some (.inl (some (.int y)), h1) := by
  rw [a_154, cl_I_is I, jx_hI_e e]
theorem w_154_eIO (I : cl_I h C) {v1 v2 v3 : Int32} (e : jx_A 93 [.ref 200, .int v1, .int v2, .int v3] h = some (.inr eIO, h1)) : jx_A 154 [.ref 200, .int v1, .int v2, .int v3] h = some (.inl (some (.int (-11))), h1) := by
  rw [a_154, cl_I_is I, jx_hI_x e, jx_hd_y, jx_U_eq, b_154_8]
theorem w_154_eUO (I : cl_I h C) {v1 v2 v3 : Int32} (e : jx_A 93 [.ref 200, .int v1, .int v2, .int v3] h = some (.inr eUO, h1)) : jx_A 154 [.ref 200, .int v1, .int v2, .int v3] h = some (.inl (some (.int (-15))), h1) := by
  rw [a_154, cl_I_is I, jx_hI_x e, jx_hd_n (by decide), jx_hd_y, jx_U_eq, b_154_13]
theorem w_154_eNS (I : cl_I h C) {v1 v2 v3 : Int32} (e : jx_A 93 [.ref 200, .int v1, .int v2, .int v3] h = some (.inr eNS, h1)) : jx_A 154 [.ref 200, .int v1, .int v2, .int v3] h = some (.inl (some (.int (-13))), h1) := by
  rw [a_154, cl_I_is I, jx_hI_x e, jx_hd_n (by decide), jx_hd_n (by decide), jx_hd_y, jx_U_eq, b_154_18]
theorem w_155_ok (I : cl_I h C) {v1 : Int32} {y : Int32} (e : jx_A 96 [.ref 200, .int v1] h = some (.inl (some (.int y)), h1)) : jx_A 155 [.ref 200, .int v1] h = some (.inl (some (.int y)), h1) := by
  rw [a_155, cl_I_is I, jx_hI_e e]
theorem w_155_eNS (I : cl_I h C) {v1 : Int32} (e : jx_A 96 [.ref 200, .int v1] h = some (.inr eNS, h1)) : jx_A 155 [.ref 200, .int v1] h = some (.inl (some (.int (-13))), h1) := by
  rw [a_155, cl_I_is I, jx_hI_x e, jx_hd_y, jx_U_eq, b_155_6]
theorem w_156_ok (I : cl_I h C) {y : Int32} (e : jx_A 98 [.ref 200] h = some (.inl (some (.int y)), h1)) : jx_A 156 [.ref 200] h = some (.inl (some (.int y)), h1) := by
  rw [a_156, cl_I_is I, jx_hI_e e]
theorem w_156_eNS (I : cl_I h C) (e : jx_A 98 [.ref 200] h = some (.inr eNS, h1)) : jx_A 156 [.ref 200] h = some (.inl (some (.int (-13))), h1) := by
  rw [a_156, cl_I_is I, jx_hI_x e, jx_hd_y, jx_U_eq, b_156_5]
theorem w_157_ok (I : cl_I h C) {v1 : Int32} {y : Int32} (e : jx_A 103 [.ref 200, .int v1] h = some (.inl (some (.int y)), h1)) : jx_A 157 [.ref 200, .int v1] h = some (.inl (some (.int y)), h1) := by
  rw [a_157, cl_I_is I, jx_hI_e e]
theorem w_157_eIO (I : cl_I h C) {v1 : Int32} (e : jx_A 103 [.ref 200, .int v1] h = some (.inr eIO, h1)) : jx_A 157 [.ref 200, .int v1] h = some (.inl (some (.int (-11))), h1) := by
  rw [a_157, cl_I_is I, jx_hI_x e, jx_hd_y, jx_U_eq, b_157_6]
theorem w_158_ok (I : cl_I h C) {v1 : Int32} {y : Int32} (e : jx_A 104 [.ref 200, .int v1] h = some (.inl (some (.int y)), h1)) : jx_A 158 [.ref 200, .int v1] h = some (.inl (some (.int y)), h1) := by
  rw [a_158, cl_I_is I, jx_hI_e e]
theorem w_158_eNS (I : cl_I h C) {v1 : Int32} (e : jx_A 104 [.ref 200, .int v1] h = some (.inr eNS, h1)) : jx_A 158 [.ref 200, .int v1] h = some (.inl (some (.int (-13))), h1) := by
  rw [a_158, cl_I_is I, jx_hI_x e, jx_hd_y, jx_U_eq, b_158_6]
theorem w_159_ok (I : cl_I h C) {v1 : Int32} {y : Int32} (e : jx_A 105 [.ref 200, .int v1] h = some (.inl (some (.int y)), h1)) : jx_A 159 [.ref 200, .int v1] h = some (.inl (some (.int y)), h1) := by
  rw [a_159, cl_I_is I, jx_hI_e e]
theorem w_159_eIO (I : cl_I h C) {v1 : Int32} (e : jx_A 105 [.ref 200, .int v1] h = some (.inr eIO, h1)) : jx_A 159 [.ref 200, .int v1] h = some (.inl (some (.int (-11))), h1) := by
  rw [a_159, cl_I_is I, jx_hI_x e, jx_hd_y, jx_U_eq, b_159_6]
theorem w_160_ok (I : cl_I h C) {v1 : Int32} {y : Int32} (e : jx_A 106 [.ref 200, .int v1] h = some (.inl (some (.int y)), h1)) : jx_A 160 [.ref 200, .int v1] h = some (.inl (some (.int y)), h1) := by
  rw [a_160, cl_I_is I, jx_hI_e e]
theorem w_160_eIS (I : cl_I h C) {v1 : Int32} (e : jx_A 106 [.ref 200, .int v1] h = some (.inr eIS, h1)) : jx_A 160 [.ref 200, .int v1] h = some (.inl (some (.int (-14))), h1) := by
  rw [a_160, cl_I_is I, jx_hI_x e, jx_hd_y, jx_U_eq, b_160_6]
theorem w_161_ok (I : cl_I h C) {y : Int32} (e : jx_A 107 [.ref 200] h = some (.inl (some (.int y)), h1)) : jx_A 161 [.ref 200] h = some (.inl (some (.int y)), h1) := by
  rw [a_161, cl_I_is I, jx_hI_e e]
theorem w_161_eIA (I : cl_I h C) (e : jx_A 107 [.ref 200] h = some (.inr eIA, h1)) : jx_A 161 [.ref 200] h = some (.inl (some (.int (-1))), h1) := by
  rw [a_161, cl_I_is I, jx_hI_x e, jx_hd_y, jx_U_eq, b_161_5]
theorem w_161_eUO (I : cl_I h C) (e : jx_A 107 [.ref 200] h = some (.inr eUO, h1)) : jx_A 161 [.ref 200] h = some (.inl (some (.int (-2))), h1) := by
  rw [a_161, cl_I_is I, jx_hI_x e, jx_hd_n (by decide), jx_hd_y, jx_U_eq, b_161_8]
theorem w_162_ok (I : cl_I h C) {y : Int32} (e : jx_A 110 [.ref 200] h = some (.inl (some (.int y)), h1)) : jx_A 162 [.ref 200] h = some (.inl (some (.int y)), h1) := by
  rw [a_162, cl_I_is I, jx_hI_e e]
theorem w_162_eIS (I : cl_I h C) (e : jx_A 110 [.ref 200] h = some (.inr eIS, h1)) : jx_A 162 [.ref 200] h = some (.inl (some (.int (-1))), h1) := by
  rw [a_162, cl_I_is I, jx_hI_x e, jx_hd_y, jx_U_eq, b_162_5]
theorem w_163_ok (I : cl_I h C) {v1 : Int32} {y : Int64} (e : jx_A 81 [.ref 200, .int v1] h = some (.inl (some (.long y)), h1)) : jx_A 163 [.ref 200, .int v1] h = some (.inl (some (.long y)), h1) := by
  rw [a_163, cl_I_is I, jx_hL_e e]
theorem w_163_eIA (I : cl_I h C) {v1 : Int32} (e : jx_A 81 [.ref 200, .int v1] h = some (.inr eIA, h1)) : jx_A 163 [.ref 200, .int v1] h = some (.inl (some (.long (-2))), h1) := by
  rw [a_163, cl_I_is I, jx_hL_x e, jx_hd_y, jx_U_eq, b_163_6]
theorem w_164_ok (I : cl_I h C) {v1 : Int32} {y : Int64} (e : jx_A 97 [.ref 200, .int v1] h = some (.inl (some (.long y)), h1)) : jx_A 164 [.ref 200, .int v1] h = some (.inl (some (.long y)), h1) := by
  rw [a_164, cl_I_is I, jx_hL_e e]
theorem w_164_eNS (I : cl_I h C) {v1 : Int32} (e : jx_A 97 [.ref 200, .int v1] h = some (.inr eNS, h1)) : jx_A 164 [.ref 200, .int v1] h = some (.inl (some (.long (-2))), h1) := by
  rw [a_164, cl_I_is I, jx_hL_x e, jx_hd_y, jx_U_eq, b_164_6]
end WR
end JX
