section JS
theorem st_iconst {m pc : Nat} {n : Int} {v : Int32} (hv : Int32.ofInt n = v) (hd : decode (js_b m) pc = .ok (.iconst n, 1)) : js_St m pc (o_ic v (pc + 1)) := by
  intro p l e R s mth args below meth c Q G H locs ls st h rls rst C K r c0 s0 hC hS hL hR hc hs hRc hRs hRf hRl hm hr kk
  obtain ⟨hx, hb, hml, hown, hts, hlk, hE, hB⟩ := hC
  unfold o_ic at hr
  exact lv_iconst hx hb hd hv (kk _ _ _ _ _ _ _ _ hr hS hL ⟨rfl, hR⟩ (jx_le_r _))
theorem st_bipush {m pc : Nat} {n : Int} {v : Int32} (hv : (Int8.ofInt n).toInt32 = v) (hd : decode (js_b m) pc = .ok (.bipush n, 2)) : js_St m pc (o_ic v (pc + 2)) := by
  intro p l e R s mth args below meth c Q G H locs ls st h rls rst C K r c0 s0 hC hS hL hR hc hs hRc hRs hRf hRl hm hr kk
  obtain ⟨hx, hb, hml, hown, hts, hlk, hE, hB⟩ := hC
  unfold o_ic at hr
  exact lv_bipush hx hb hd hv (kk _ _ _ _ _ _ _ _ hr hS hL ⟨rfl, hR⟩ (jx_le_r _))
theorem st_sipush {m pc : Nat} {n : Int} {v : Int32} (hv : (Int16.ofInt n).toInt32 = v) (hd : decode (js_b m) pc = .ok (.sipush n, 3)) : js_St m pc (o_ic v (pc + 3)) := by
  intro p l e R s mth args below meth c Q G H locs ls st h rls rst C K r c0 s0 hC hS hL hR hc hs hRc hRs hRf hRl hm hr kk
  obtain ⟨hx, hb, hml, hown, hts, hlk, hE, hB⟩ := hC
  unfold o_ic at hr
  exact lv_sipush hx hb hd hv (kk _ _ _ _ _ _ _ _ hr hS hL ⟨rfl, hR⟩ (jx_le_r _))
theorem st_lconst {m pc : Nat} {n : Fin 2} {v : Int64} (hv : Int64.ofNat (n : Nat) = v) (hd : decode (js_b m) pc = .ok (.lconst n, 1)) : js_St m pc (o_lc v (pc + 1)) := by
  intro p l e R s mth args below meth c Q G H locs ls st h rls rst C K r c0 s0 hC hS hL hR hc hs hRc hRs hRf hRl hm hr kk
  obtain ⟨hx, hb, hml, hown, hts, hlk, hE, hB⟩ := hC
  unfold o_lc at hr
  exact lv_lconst hx hb hd hv (kk _ _ _ _ _ _ _ _ hr hS hL ⟨rfl, hR⟩ (jx_le_r _))
theorem st_fconst0 {m pc : Nat}  (hd : decode (js_b m) pc = .ok (.fconst 0, 1)) : js_St m pc (o_fc FP.fconst0 (pc + 1)) := by
  intro p l e R s mth args below meth c Q G H locs ls st h rls rst C K r c0 s0 hC hS hL hR hc hs hRc hRs hRf hRl hm hr kk
  obtain ⟨hx, hb, hml, hown, hts, hlk, hE, hB⟩ := hC
  unfold o_fc at hr
  exact lv_fconst0 hx hb hd (kk _ _ _ _ _ _ _ _ hr hS hL ⟨rfl, hR⟩ (jx_le_r _))
theorem st_fconst1 {m pc : Nat}  (hd : decode (js_b m) pc = .ok (.fconst 1, 1)) : js_St m pc (o_fc FP.fconst1 (pc + 1)) := by
  intro p l e R s mth args below meth c Q G H locs ls st h rls rst C K r c0 s0 hC hS hL hR hc hs hRc hRs hRf hRl hm hr kk
  obtain ⟨hx, hb, hml, hown, hts, hlk, hE, hB⟩ := hC
  unfold o_fc at hr
  exact lv_fconst1 hx hb hd (kk _ _ _ _ _ _ _ _ hr hS hL ⟨rfl, hR⟩ (jx_le_r _))
theorem st_fconst2 {m pc : Nat}  (hd : decode (js_b m) pc = .ok (.fconst 2, 1)) : js_St m pc (o_fc FP.fconst2 (pc + 1)) := by
  intro p l e R s mth args below meth c Q G H locs ls st h rls rst C K r c0 s0 hC hS hL hR hc hs hRc hRs hRf hRl hm hr kk
  obtain ⟨hx, hb, hml, hown, hts, hlk, hE, hB⟩ := hC
  unfold o_fc at hr
  exact lv_fconst2 hx hb hd (kk _ _ _ _ _ _ _ _ hr hS hL ⟨rfl, hR⟩ (jx_le_r _))
theorem st_dconst0 {m pc : Nat}  (hd : decode (js_b m) pc = .ok (.dconst 0, 1)) : js_St m pc (o_dc FP.dconst0 (pc + 1)) := by
  intro p l e R s mth args below meth c Q G H locs ls st h rls rst C K r c0 s0 hC hS hL hR hc hs hRc hRs hRf hRl hm hr kk
  obtain ⟨hx, hb, hml, hown, hts, hlk, hE, hB⟩ := hC
  unfold o_dc at hr
  exact lv_dconst0 hx hb hd (kk _ _ _ _ _ _ _ _ hr hS hL ⟨rfl, hR⟩ (jx_le_r _))
theorem st_dconst1 {m pc : Nat}  (hd : decode (js_b m) pc = .ok (.dconst 1, 1)) : js_St m pc (o_dc FP.dconst1 (pc + 1)) := by
  intro p l e R s mth args below meth c Q G H locs ls st h rls rst C K r c0 s0 hC hS hL hR hc hs hRc hRs hRf hRl hm hr kk
  obtain ⟨hx, hb, hml, hown, hts, hlk, hE, hB⟩ := hC
  unfold o_dc at hr
  exact lv_dconst1 hx hb hd (kk _ _ _ _ _ _ _ _ hr hS hL ⟨rfl, hR⟩ (jx_le_r _))
theorem st_ldc {m pc : Nat} {i : Nat} {v : Int32} (hw : Jvm.Cond.constant (js_y m).cls i v ∈ js_ws) (hd : decode (js_b m) pc = .ok (.ldc i, 2)) : js_St m pc (o_ic v (pc + 2)) := by
  intro p l e R s mth args below meth c Q G H locs ls st h rls rst C K r c0 s0 hC hS hL hR hc hs hRc hRs hRf hRl hm hr kk
  obtain ⟨hx, hb, hml, hown, hts, hlk, hE, hB⟩ := hC
  unfold o_ic at hr
  exact lv_ldc hx hb hown (hts _ hw) hd (kk _ _ _ _ _ _ _ _ hr hS hL ⟨rfl, hR⟩ (jx_le_r _))
theorem st_ldcw {m pc : Nat} {i : Nat} {v : Int32} (hw : Jvm.Cond.constant (js_y m).cls i v ∈ js_ws) (hd : decode (js_b m) pc = .ok (.ldc_w i, 3)) : js_St m pc (o_ic v (pc + 3)) := by
  intro p l e R s mth args below meth c Q G H locs ls st h rls rst C K r c0 s0 hC hS hL hR hc hs hRc hRs hRf hRl hm hr kk
  obtain ⟨hx, hb, hml, hown, hts, hlk, hE, hB⟩ := hC
  unfold o_ic at hr
  exact lv_ldcw hx hb hown (hts _ hw) hd (kk _ _ _ _ _ _ _ _ hr hS hL ⟨rfl, hR⟩ (jx_le_r _))
theorem st_ldc2 {m pc : Nat} {i : Nat} {v : Int64} (hw : Jvm.Cond.constantLong (js_y m).cls i v ∈ js_ws) (hd : decode (js_b m) pc = .ok (.ldc2_w i, 3)) : js_St m pc (o_lc v (pc + 3)) := by
  intro p l e R s mth args below meth c Q G H locs ls st h rls rst C K r c0 s0 hC hS hL hR hc hs hRc hRs hRf hRl hm hr kk
  obtain ⟨hx, hb, hml, hown, hts, hlk, hE, hB⟩ := hC
  unfold o_lc at hr
  exact lv_ldc2 hx hb hown (hts _ hw) hd (kk _ _ _ _ _ _ _ _ hr hS hL ⟨rfl, hR⟩ (jx_le_r _))
theorem st_ldcf {m pc : Nat} {i : Nat} {v : UInt32} (hw : Jvm.Cond.constantFloat (js_y m).cls i v ∈ js_ws) (hd : decode (js_b m) pc = .ok (.ldc i, 2)) : js_St m pc (o_fc v (pc + 2)) := by
  intro p l e R s mth args below meth c Q G H locs ls st h rls rst C K r c0 s0 hC hS hL hR hc hs hRc hRs hRf hRl hm hr kk
  obtain ⟨hx, hb, hml, hown, hts, hlk, hE, hB⟩ := hC
  unfold o_fc at hr
  exact lv_ldcf hx hb hown (hts _ hw) hd (kk _ _ _ _ _ _ _ _ hr hS hL ⟨rfl, hR⟩ (jx_le_r _))
theorem st_null {m pc : Nat}  (hd : decode (js_b m) pc = .ok (.aconst_null, 1)) : js_St m pc (o_nc (pc + 1)) := by
  intro p l e R s mth args below meth c Q G H locs ls st h rls rst C K r c0 s0 hC hS hL hR hc hs hRc hRs hRf hRl hm hr kk
  obtain ⟨hx, hb, hml, hown, hts, hlk, hE, hB⟩ := hC
  unfold o_nc at hr
  exact lv_null hx hb hd (kk _ _ _ _ _ _ _ _ hr hS hL ⟨rfl, hR⟩ (jx_le_r _))
theorem st_ldcfw_row {p : Program} {l : Launch} {e : Env} {R : Room} {s : State} {m : MethodId} {args : Array Value} {below : List Frame} {meth : Method} {c : Code} {H : Heap} {locs : List Loc} {cells slots : Nat} {Q : State → Prop} {cc : ByteArray} {pc : Nat} {ls : Array Slot} {rest : List Value} (hexec : p.tables.exec = Jvm.exec) (hb : c.code = cc) {own tx : String} {index q : Nat} (hown : s.vm.findClass own = some m.cls) (hZ : vk_R own index tx q s) (hdg : decode cc pc = .ok (.ldc_w index, 3))
    (k : W p l e R s m args below meth c H locs cells slots Q (F0 m (pc + 3) ls (.ref q :: rest))) : W p l e R s m args below meth c H locs cells slots Q (F0 m pc ls rest) := by
  intro T hT X
  obtain ⟨t, a1, b1⟩ := k T hT X
  exact ⟨t, X.ldcStringW hexec hown (text := tx) (a := q) hZ.1 hZ.2 (g := F0 m pc ls rest) rfl (by rw [hb]; exact hdg) t a1, b1⟩
theorem st_ldcs {m pc : Nat} {i a : Nat} {tx : String} (hw : (((js_y m).cls, i, tx, a) : String × Nat × String × Nat) ∈ js_sl) (hd : decode (js_b m) pc = .ok (.ldc_w i, 3)) : js_St m pc (o_rc a (pc + 3)) := by
  intro p l e R s mth args below meth c Q G H locs ls st h rls rst C K r c0 s0 hC hS hL hR hc hs hRc hRs hRf hRl hm hr kk
  obtain ⟨hx, hb, hml, hown, hts, hlk, hE, hB⟩ := hC
  unfold o_rc at hr
  exact st_ldcfw_row hx hb hown (hE.2.2.2.2.2.1 _ hw) hd (kk _ _ _ _ _ _ _ _ hr hS hL ⟨rfl, hR⟩ (jx_le_r _))
theorem st_iload {m pc : Nat}  {i : Nat} (hd : decode (js_b m) pc = .ok (.iload i, 2)) : js_St m pc (o_il i (pc + 2)) := by
  intro p l e R s mth args below meth c Q G H locs ls st h rls rst C K r c0 s0 hC hS hL hR hc hs hRc hRs hRf hRl hm hr kk
  obtain ⟨hx, hb, hml, hown, hts, hlk, hE, hB⟩ := hC
  unfold o_il at hr
  split at hr
  · rename_i x hx1
    exact lv_iload hx hb hd (hL.2.2 _ _ hx1 (js_nj_i _)) (kk _ _ _ _ _ _ _ _ hr hS hL ⟨rfl, hR⟩ (jx_le_r _))
  · cases hr
theorem st_iloadn {m pc : Nat} {k : Fin 4} {i : Nat} (hi : (k : Nat) = i) (hd : decode (js_b m) pc = .ok (.iload_n k, 1)) : js_St m pc (o_il i (pc + 1)) := by
  intro p l e R s mth args below meth c Q G H locs ls st h rls rst C K r c0 s0 hC hS hL hR hc hs hRc hRs hRf hRl hm hr kk
  obtain ⟨hx, hb, hml, hown, hts, hlk, hE, hB⟩ := hC
  unfold o_il at hr
  split at hr
  · rename_i x hx1
    exact lv_iload_n hx hb hd hi (hL.2.2 _ _ hx1 (js_nj_i _)) (kk _ _ _ _ _ _ _ _ hr hS hL ⟨rfl, hR⟩ (jx_le_r _))
  · cases hr
theorem st_lload {m pc : Nat}  {i : Nat} (hd : decode (js_b m) pc = .ok (.lload i, 2)) : js_St m pc (o_ll i (pc + 2)) := by
  intro p l e R s mth args below meth c Q G H locs ls st h rls rst C K r c0 s0 hC hS hL hR hc hs hRc hRs hRf hRl hm hr kk
  obtain ⟨hx, hb, hml, hown, hts, hlk, hE, hB⟩ := hC
  unfold o_ll at hr
  split at hr
  · rename_i x hx1
    exact lv_lload hx hb hd (hL.2.2 _ _ hx1 (js_nj_l _)) (kk _ _ _ _ _ _ _ _ hr hS hL ⟨rfl, hR⟩ (jx_le_r _))
  · cases hr
theorem st_lloadn {m pc : Nat} {k : Fin 4} {i : Nat} (hi : (k : Nat) = i) (hd : decode (js_b m) pc = .ok (.lload_n k, 1)) : js_St m pc (o_ll i (pc + 1)) := by
  intro p l e R s mth args below meth c Q G H locs ls st h rls rst C K r c0 s0 hC hS hL hR hc hs hRc hRs hRf hRl hm hr kk
  obtain ⟨hx, hb, hml, hown, hts, hlk, hE, hB⟩ := hC
  unfold o_ll at hr
  split at hr
  · rename_i x hx1
    exact lv_lload_n hx hb hd hi (hL.2.2 _ _ hx1 (js_nj_l _)) (kk _ _ _ _ _ _ _ _ hr hS hL ⟨rfl, hR⟩ (jx_le_r _))
  · cases hr
theorem st_fload {m pc : Nat}  {i : Nat} (hd : decode (js_b m) pc = .ok (.fload i, 2)) : js_St m pc (o_fl i (pc + 2)) := by
  intro p l e R s mth args below meth c Q G H locs ls st h rls rst C K r c0 s0 hC hS hL hR hc hs hRc hRs hRf hRl hm hr kk
  obtain ⟨hx, hb, hml, hown, hts, hlk, hE, hB⟩ := hC
  unfold o_fl at hr
  split at hr
  · rename_i x hx1
    exact lv_fload hx hb hd (hL.2.2 _ _ hx1 (js_nj_f _)) (kk _ _ _ _ _ _ _ _ hr hS hL ⟨rfl, hR⟩ (jx_le_r _))
  · cases hr
theorem st_floadn {m pc : Nat} {k : Fin 4} {i : Nat} (hi : (k : Nat) = i) (hd : decode (js_b m) pc = .ok (.fload_n k, 1)) : js_St m pc (o_fl i (pc + 1)) := by
  intro p l e R s mth args below meth c Q G H locs ls st h rls rst C K r c0 s0 hC hS hL hR hc hs hRc hRs hRf hRl hm hr kk
  obtain ⟨hx, hb, hml, hown, hts, hlk, hE, hB⟩ := hC
  unfold o_fl at hr
  split at hr
  · rename_i x hx1
    exact lv_fload_n hx hb hd hi (hL.2.2 _ _ hx1 (js_nj_f _)) (kk _ _ _ _ _ _ _ _ hr hS hL ⟨rfl, hR⟩ (jx_le_r _))
  · cases hr
theorem st_dload {m pc : Nat}  {i : Nat} (hd : decode (js_b m) pc = .ok (.dload i, 2)) : js_St m pc (o_dl i (pc + 2)) := by
  intro p l e R s mth args below meth c Q G H locs ls st h rls rst C K r c0 s0 hC hS hL hR hc hs hRc hRs hRf hRl hm hr kk
  obtain ⟨hx, hb, hml, hown, hts, hlk, hE, hB⟩ := hC
  unfold o_dl at hr
  split at hr
  · rename_i x hx1
    exact lv_dload hx hb hd (hL.2.2 _ _ hx1 (js_nj_d _)) (kk _ _ _ _ _ _ _ _ hr hS hL ⟨rfl, hR⟩ (jx_le_r _))
  · cases hr
theorem st_dloadn {m pc : Nat} {k : Fin 4} {i : Nat} (hi : (k : Nat) = i) (hd : decode (js_b m) pc = .ok (.dload_n k, 1)) : js_St m pc (o_dl i (pc + 1)) := by
  intro p l e R s mth args below meth c Q G H locs ls st h rls rst C K r c0 s0 hC hS hL hR hc hs hRc hRs hRf hRl hm hr kk
  obtain ⟨hx, hb, hml, hown, hts, hlk, hE, hB⟩ := hC
  unfold o_dl at hr
  split at hr
  · rename_i x hx1
    exact lv_dload_n hx hb hd hi (hL.2.2 _ _ hx1 (js_nj_d _)) (kk _ _ _ _ _ _ _ _ hr hS hL ⟨rfl, hR⟩ (jx_le_r _))
  · cases hr
theorem st_aload {m pc : Nat}  {i : Nat} (hd : decode (js_b m) pc = .ok (.aload i, 2)) : js_St m pc (o_al i (pc + 2)) := by
  intro p l e R s mth args below meth c Q G H locs ls st h rls rst C K r c0 s0 hC hS hL hR hc hs hRc hRs hRf hRl hm hr kk
  obtain ⟨hx, hb, hml, hown, hts, hlk, hE, hB⟩ := hC
  unfold o_al at hr
  split at hr
  · rename_i x hx1
    exact lv_aload hx hb hd (hL.2.2 _ _ hx1 (js_nj_r _)) (kk _ _ _ _ _ _ _ _ hr hS hL ⟨rfl, hR⟩ (jx_le_r _))
  · rename_i hx1
    exact lv_aloadN hx hb hd (hL.2.2 _ _ hx1 js_nj_n) (kk _ _ _ _ _ _ _ _ hr hS hL ⟨rfl, hR⟩ (jx_le_r _))
  · cases hr
theorem st_aloadn {m pc : Nat} {k : Fin 4} {i : Nat} (hi : (k : Nat) = i) (hd : decode (js_b m) pc = .ok (.aload_n k, 1)) : js_St m pc (o_al i (pc + 1)) := by
  intro p l e R s mth args below meth c Q G H locs ls st h rls rst C K r c0 s0 hC hS hL hR hc hs hRc hRs hRf hRl hm hr kk
  obtain ⟨hx, hb, hml, hown, hts, hlk, hE, hB⟩ := hC
  unfold o_al at hr
  split at hr
  · rename_i x hx1
    exact lv_aload_n hx hb hd hi (hL.2.2 _ _ hx1 (js_nj_r _)) (kk _ _ _ _ _ _ _ _ hr hS hL ⟨rfl, hR⟩ (jx_le_r _))
  · rename_i hx1
    exact lv_aload_nN hx hb hd hi (hL.2.2 _ _ hx1 js_nj_n) (kk _ _ _ _ _ _ _ _ hr hS hL ⟨rfl, hR⟩ (jx_le_r _))
  · cases hr
theorem st_iadd {m pc : Nat}  (hd : decode (js_b m) pc = .ok (.iadd, 1)) : js_St m pc (o_b2 (fun x y => x + y) (pc + 1)) := by
  intro p l e R s mth args below meth c Q G H locs ls st h rls rst C K r c0 s0 hC hS hL hR hc hs hRc hRs hRf hRl hm hr kk
  obtain ⟨hx, hb, hml, hown, hts, hlk, hE, hB⟩ := hC
  unfold o_b2 at hr
  split at hr
  · rename_i y x rr
    obtain ⟨q_y, rst0, rfl, h_y, hR1⟩ := js_RL_c hR
    have h_y : q_y = .int y := h_y
    subst h_y
    obtain ⟨q_x, rst1, rfl, h_x, hR2⟩ := js_RL_c hR1
    have h_x : q_x = .int x := h_x
    subst h_x
    have hR := hR2
    exact lv_iadd hx hb hd (kk _ _ _ _ _ _ _ _ hr hS hL ⟨rfl, hR⟩ (jx_le_r _))
  · cases hr
theorem st_isub {m pc : Nat}  (hd : decode (js_b m) pc = .ok (.isub, 1)) : js_St m pc (o_b2 (fun x y => x - y) (pc + 1)) := by
  intro p l e R s mth args below meth c Q G H locs ls st h rls rst C K r c0 s0 hC hS hL hR hc hs hRc hRs hRf hRl hm hr kk
  obtain ⟨hx, hb, hml, hown, hts, hlk, hE, hB⟩ := hC
  unfold o_b2 at hr
  split at hr
  · rename_i y x rr
    obtain ⟨q_y, rst0, rfl, h_y, hR1⟩ := js_RL_c hR
    have h_y : q_y = .int y := h_y
    subst h_y
    obtain ⟨q_x, rst1, rfl, h_x, hR2⟩ := js_RL_c hR1
    have h_x : q_x = .int x := h_x
    subst h_x
    have hR := hR2
    exact lv_isub hx hb hd (kk _ _ _ _ _ _ _ _ hr hS hL ⟨rfl, hR⟩ (jx_le_r _))
  · cases hr
theorem st_imul {m pc : Nat}  (hd : decode (js_b m) pc = .ok (.imul, 1)) : js_St m pc (o_b2 (fun x y => x * y) (pc + 1)) := by
  intro p l e R s mth args below meth c Q G H locs ls st h rls rst C K r c0 s0 hC hS hL hR hc hs hRc hRs hRf hRl hm hr kk
  obtain ⟨hx, hb, hml, hown, hts, hlk, hE, hB⟩ := hC
  unfold o_b2 at hr
  split at hr
  · rename_i y x rr
    obtain ⟨q_y, rst0, rfl, h_y, hR1⟩ := js_RL_c hR
    have h_y : q_y = .int y := h_y
    subst h_y
    obtain ⟨q_x, rst1, rfl, h_x, hR2⟩ := js_RL_c hR1
    have h_x : q_x = .int x := h_x
    subst h_x
    have hR := hR2
    exact lv_imul hx hb hd (kk _ _ _ _ _ _ _ _ hr hS hL ⟨rfl, hR⟩ (jx_le_r _))
  · cases hr
theorem st_iand {m pc : Nat}  (hd : decode (js_b m) pc = .ok (.iand, 1)) : js_St m pc (o_b2 (fun x y => x &&& y) (pc + 1)) := by
  intro p l e R s mth args below meth c Q G H locs ls st h rls rst C K r c0 s0 hC hS hL hR hc hs hRc hRs hRf hRl hm hr kk
  obtain ⟨hx, hb, hml, hown, hts, hlk, hE, hB⟩ := hC
  unfold o_b2 at hr
  split at hr
  · rename_i y x rr
    obtain ⟨q_y, rst0, rfl, h_y, hR1⟩ := js_RL_c hR
    have h_y : q_y = .int y := h_y
    subst h_y
    obtain ⟨q_x, rst1, rfl, h_x, hR2⟩ := js_RL_c hR1
    have h_x : q_x = .int x := h_x
    subst h_x
    have hR := hR2
    exact lv_iand hx hb hd (kk _ _ _ _ _ _ _ _ hr hS hL ⟨rfl, hR⟩ (jx_le_r _))
  · cases hr
theorem st_ior {m pc : Nat}  (hd : decode (js_b m) pc = .ok (.ior, 1)) : js_St m pc (o_b2 (fun x y => x ||| y) (pc + 1)) := by
  intro p l e R s mth args below meth c Q G H locs ls st h rls rst C K r c0 s0 hC hS hL hR hc hs hRc hRs hRf hRl hm hr kk
  obtain ⟨hx, hb, hml, hown, hts, hlk, hE, hB⟩ := hC
  unfold o_b2 at hr
  split at hr
  · rename_i y x rr
    obtain ⟨q_y, rst0, rfl, h_y, hR1⟩ := js_RL_c hR
    have h_y : q_y = .int y := h_y
    subst h_y
    obtain ⟨q_x, rst1, rfl, h_x, hR2⟩ := js_RL_c hR1
    have h_x : q_x = .int x := h_x
    subst h_x
    have hR := hR2
    exact lv_ior hx hb hd (kk _ _ _ _ _ _ _ _ hr hS hL ⟨rfl, hR⟩ (jx_le_r _))
  · cases hr
theorem st_ixor {m pc : Nat}  (hd : decode (js_b m) pc = .ok (.ixor, 1)) : js_St m pc (o_b2 (fun x y => x ^^^ y) (pc + 1)) := by
  intro p l e R s mth args below meth c Q G H locs ls st h rls rst C K r c0 s0 hC hS hL hR hc hs hRc hRs hRf hRl hm hr kk
  obtain ⟨hx, hb, hml, hown, hts, hlk, hE, hB⟩ := hC
  unfold o_b2 at hr
  split at hr
  · rename_i y x rr
    obtain ⟨q_y, rst0, rfl, h_y, hR1⟩ := js_RL_c hR
    have h_y : q_y = .int y := h_y
    subst h_y
    obtain ⟨q_x, rst1, rfl, h_x, hR2⟩ := js_RL_c hR1
    have h_x : q_x = .int x := h_x
    subst h_x
    have hR := hR2
    exact lv_ixor hx hb hd (kk _ _ _ _ _ _ _ _ hr hS hL ⟨rfl, hR⟩ (jx_le_r _))
  · cases hr
theorem st_ishl {m pc : Nat}  (hd : decode (js_b m) pc = .ok (.ishl, 1)) : js_St m pc (o_b2 (fun x y => x <<< (y &&& 31)) (pc + 1)) := by
  intro p l e R s mth args below meth c Q G H locs ls st h rls rst C K r c0 s0 hC hS hL hR hc hs hRc hRs hRf hRl hm hr kk
  obtain ⟨hx, hb, hml, hown, hts, hlk, hE, hB⟩ := hC
  unfold o_b2 at hr
  split at hr
  · rename_i y x rr
    obtain ⟨q_y, rst0, rfl, h_y, hR1⟩ := js_RL_c hR
    have h_y : q_y = .int y := h_y
    subst h_y
    obtain ⟨q_x, rst1, rfl, h_x, hR2⟩ := js_RL_c hR1
    have h_x : q_x = .int x := h_x
    subst h_x
    have hR := hR2
    exact lv_ishl hx hb hd (kk _ _ _ _ _ _ _ _ hr hS hL ⟨rfl, hR⟩ (jx_le_r _))
  · cases hr
theorem st_ishr {m pc : Nat}  (hd : decode (js_b m) pc = .ok (.ishr, 1)) : js_St m pc (o_b2 (fun x y => x >>> (y &&& 31)) (pc + 1)) := by
  intro p l e R s mth args below meth c Q G H locs ls st h rls rst C K r c0 s0 hC hS hL hR hc hs hRc hRs hRf hRl hm hr kk
  obtain ⟨hx, hb, hml, hown, hts, hlk, hE, hB⟩ := hC
  unfold o_b2 at hr
  split at hr
  · rename_i y x rr
    obtain ⟨q_y, rst0, rfl, h_y, hR1⟩ := js_RL_c hR
    have h_y : q_y = .int y := h_y
    subst h_y
    obtain ⟨q_x, rst1, rfl, h_x, hR2⟩ := js_RL_c hR1
    have h_x : q_x = .int x := h_x
    subst h_x
    have hR := hR2
    exact lv_ishr hx hb hd (kk _ _ _ _ _ _ _ _ hr hS hL ⟨rfl, hR⟩ (jx_le_r _))
  · cases hr
theorem st_iushr {m pc : Nat}  (hd : decode (js_b m) pc = .ok (.iushr, 1)) : js_St m pc (o_b2 (fun x y => (x.toUInt32 >>> (y.toUInt32 &&& Int32.toUInt32 31)).toInt32) (pc + 1)) := by
  intro p l e R s mth args below meth c Q G H locs ls st h rls rst C K r c0 s0 hC hS hL hR hc hs hRc hRs hRf hRl hm hr kk
  obtain ⟨hx, hb, hml, hown, hts, hlk, hE, hB⟩ := hC
  unfold o_b2 at hr
  split at hr
  · rename_i y x rr
    obtain ⟨q_y, rst0, rfl, h_y, hR1⟩ := js_RL_c hR
    have h_y : q_y = .int y := h_y
    subst h_y
    obtain ⟨q_x, rst1, rfl, h_x, hR2⟩ := js_RL_c hR1
    have h_x : q_x = .int x := h_x
    subst h_x
    have hR := hR2
    exact lv_iushr hx hb hd rfl (kk _ _ _ _ _ _ _ _ hr hS hL ⟨rfl, hR⟩ (jx_le_r _))
  · cases hr
theorem st_land {m pc : Nat}  (hd : decode (js_b m) pc = .ok (.land, 1)) : js_St m pc (o_B2 (fun x y => x &&& y) (pc + 1)) := by
  intro p l e R s mth args below meth c Q G H locs ls st h rls rst C K r c0 s0 hC hS hL hR hc hs hRc hRs hRf hRl hm hr kk
  obtain ⟨hx, hb, hml, hown, hts, hlk, hE, hB⟩ := hC
  unfold o_B2 at hr
  split at hr
  · rename_i y x rr
    obtain ⟨q_y, rst0, rfl, h_y, hR1⟩ := js_RL_c hR
    have h_y : q_y = .long y := h_y
    subst h_y
    obtain ⟨q_x, rst1, rfl, h_x, hR2⟩ := js_RL_c hR1
    have h_x : q_x = .long x := h_x
    subst h_x
    have hR := hR2
    exact lv_land hx hb hd (kk _ _ _ _ _ _ _ _ hr hS hL ⟨rfl, hR⟩ (jx_le_r _))
  · cases hr
theorem st_lor {m pc : Nat}  (hd : decode (js_b m) pc = .ok (.lor, 1)) : js_St m pc (o_B2 (fun x y => x ||| y) (pc + 1)) := by
  intro p l e R s mth args below meth c Q G H locs ls st h rls rst C K r c0 s0 hC hS hL hR hc hs hRc hRs hRf hRl hm hr kk
  obtain ⟨hx, hb, hml, hown, hts, hlk, hE, hB⟩ := hC
  unfold o_B2 at hr
  split at hr
  · rename_i y x rr
    obtain ⟨q_y, rst0, rfl, h_y, hR1⟩ := js_RL_c hR
    have h_y : q_y = .long y := h_y
    subst h_y
    obtain ⟨q_x, rst1, rfl, h_x, hR2⟩ := js_RL_c hR1
    have h_x : q_x = .long x := h_x
    subst h_x
    have hR := hR2
    exact lv_lor hx hb hd (kk _ _ _ _ _ _ _ _ hr hS hL ⟨rfl, hR⟩ (jx_le_r _))
  · cases hr
theorem st_lxor {m pc : Nat}  (hd : decode (js_b m) pc = .ok (.lxor, 1)) : js_St m pc (o_B2 (fun x y => x ^^^ y) (pc + 1)) := by
  intro p l e R s mth args below meth c Q G H locs ls st h rls rst C K r c0 s0 hC hS hL hR hc hs hRc hRs hRf hRl hm hr kk
  obtain ⟨hx, hb, hml, hown, hts, hlk, hE, hB⟩ := hC
  unfold o_B2 at hr
  split at hr
  · rename_i y x rr
    obtain ⟨q_y, rst0, rfl, h_y, hR1⟩ := js_RL_c hR
    have h_y : q_y = .long y := h_y
    subst h_y
    obtain ⟨q_x, rst1, rfl, h_x, hR2⟩ := js_RL_c hR1
    have h_x : q_x = .long x := h_x
    subst h_x
    have hR := hR2
    exact lv_lxor hx hb hd (kk _ _ _ _ _ _ _ _ hr hS hL ⟨rfl, hR⟩ (jx_le_r _))
  · cases hr
theorem st_lsub {m pc : Nat}  (hd : decode (js_b m) pc = .ok (.lsub, 1)) : js_St m pc (o_B2 (fun x y => x - y) (pc + 1)) := by
  intro p l e R s mth args below meth c Q G H locs ls st h rls rst C K r c0 s0 hC hS hL hR hc hs hRc hRs hRf hRl hm hr kk
  obtain ⟨hx, hb, hml, hown, hts, hlk, hE, hB⟩ := hC
  unfold o_B2 at hr
  split at hr
  · rename_i y x rr
    obtain ⟨q_y, rst0, rfl, h_y, hR1⟩ := js_RL_c hR
    have h_y : q_y = .long y := h_y
    subst h_y
    obtain ⟨q_x, rst1, rfl, h_x, hR2⟩ := js_RL_c hR1
    have h_x : q_x = .long x := h_x
    subst h_x
    have hR := hR2
    exact lv_lsub hx hb hd (kk _ _ _ _ _ _ _ _ hr hS hL ⟨rfl, hR⟩ (jx_le_r _))
  · cases hr
theorem st_ladd {m pc : Nat}  (hd : decode (js_b m) pc = .ok (.ladd, 1)) : js_St m pc (o_B2 (fun x y => x + y) (pc + 1)) := by
  intro p l e R s mth args below meth c Q G H locs ls st h rls rst C K r c0 s0 hC hS hL hR hc hs hRc hRs hRf hRl hm hr kk
  obtain ⟨hx, hb, hml, hown, hts, hlk, hE, hB⟩ := hC
  unfold o_B2 at hr
  split at hr
  · rename_i y x rr
    obtain ⟨q_y, rst0, rfl, h_y, hR1⟩ := js_RL_c hR
    have h_y : q_y = .long y := h_y
    subst h_y
    obtain ⟨q_x, rst1, rfl, h_x, hR2⟩ := js_RL_c hR1
    have h_x : q_x = .long x := h_x
    subst h_x
    have hR := hR2
    exact lv_ladd hx hb hd (kk _ _ _ _ _ _ _ _ hr hS hL ⟨rfl, hR⟩ (jx_le_r _))
  · cases hr
theorem st_lmul {m pc : Nat}  (hd : decode (js_b m) pc = .ok (.lmul, 1)) : js_St m pc (o_B2 (fun x y => x * y) (pc + 1)) := by
  intro p l e R s mth args below meth c Q G H locs ls st h rls rst C K r c0 s0 hC hS hL hR hc hs hRc hRs hRf hRl hm hr kk
  obtain ⟨hx, hb, hml, hown, hts, hlk, hE, hB⟩ := hC
  unfold o_B2 at hr
  split at hr
  · rename_i y x rr
    obtain ⟨q_y, rst0, rfl, h_y, hR1⟩ := js_RL_c hR
    have h_y : q_y = .long y := h_y
    subst h_y
    obtain ⟨q_x, rst1, rfl, h_x, hR2⟩ := js_RL_c hR1
    have h_x : q_x = .long x := h_x
    subst h_x
    have hR := hR2
    exact lv_lmul hx hb hd (kk _ _ _ _ _ _ _ _ hr hS hL ⟨rfl, hR⟩ (jx_le_r _))
  · cases hr
theorem st_lshl {m pc : Nat}  (hd : decode (js_b m) pc = .ok (.lshl, 1)) : js_St m pc (o_Sh (fun x y => x <<< (y.toInt64 &&& 63)) (pc + 1)) := by
  intro p l e R s mth args below meth c Q G H locs ls st h rls rst C K r c0 s0 hC hS hL hR hc hs hRc hRs hRf hRl hm hr kk
  obtain ⟨hx, hb, hml, hown, hts, hlk, hE, hB⟩ := hC
  unfold o_Sh at hr
  split at hr
  · rename_i y x rr
    obtain ⟨q_y, rst0, rfl, h_y, hR1⟩ := js_RL_c hR
    have h_y : q_y = .int y := h_y
    subst h_y
    obtain ⟨q_x, rst1, rfl, h_x, hR2⟩ := js_RL_c hR1
    have h_x : q_x = .long x := h_x
    subst h_x
    have hR := hR2
    exact lv_lshl hx hb hd rfl (kk _ _ _ _ _ _ _ _ hr hS hL ⟨rfl, hR⟩ (jx_le_r _))
  · cases hr
theorem st_lshr {m pc : Nat}  (hd : decode (js_b m) pc = .ok (.lshr, 1)) : js_St m pc (o_Sh (fun x y => x >>> (y.toInt64 &&& 63)) (pc + 1)) := by
  intro p l e R s mth args below meth c Q G H locs ls st h rls rst C K r c0 s0 hC hS hL hR hc hs hRc hRs hRf hRl hm hr kk
  obtain ⟨hx, hb, hml, hown, hts, hlk, hE, hB⟩ := hC
  unfold o_Sh at hr
  split at hr
  · rename_i y x rr
    obtain ⟨q_y, rst0, rfl, h_y, hR1⟩ := js_RL_c hR
    have h_y : q_y = .int y := h_y
    subst h_y
    obtain ⟨q_x, rst1, rfl, h_x, hR2⟩ := js_RL_c hR1
    have h_x : q_x = .long x := h_x
    subst h_x
    have hR := hR2
    exact lv_lshr hx hb hd rfl (kk _ _ _ _ _ _ _ _ hr hS hL ⟨rfl, hR⟩ (jx_le_r _))
  · cases hr
theorem st_lushr {m pc : Nat}  (hd : decode (js_b m) pc = .ok (.lushr, 1)) : js_St m pc (o_Sh (fun x y => (x.toUInt64 >>> (y.toInt64.toUInt64 &&& Int64.toUInt64 63)).toInt64) (pc + 1)) := by
  intro p l e R s mth args below meth c Q G H locs ls st h rls rst C K r c0 s0 hC hS hL hR hc hs hRc hRs hRf hRl hm hr kk
  obtain ⟨hx, hb, hml, hown, hts, hlk, hE, hB⟩ := hC
  unfold o_Sh at hr
  split at hr
  · rename_i y x rr
    obtain ⟨q_y, rst0, rfl, h_y, hR1⟩ := js_RL_c hR
    have h_y : q_y = .int y := h_y
    subst h_y
    obtain ⟨q_x, rst1, rfl, h_x, hR2⟩ := js_RL_c hR1
    have h_x : q_x = .long x := h_x
    subst h_x
    have hR := hR2
    exact lv_lushr hx hb hd rfl (kk _ _ _ _ _ _ _ _ hr hS hL ⟨rfl, hR⟩ (jx_le_r _))
  · cases hr
theorem st_idiv {m pc : Nat}  (hd : decode (js_b m) pc = .ok (.idiv, 1)) : js_St m pc (o_div (pc + 1)) := by
  intro p l e R s mth args below meth c Q G H locs ls st h rls rst C K r c0 s0 hC hS hL hR hc hs hRc hRs hRf hRl hm hr kk
  obtain ⟨hx, hb, hml, hown, hts, hlk, hE, hB⟩ := hC
  unfold o_div at hr
  split at hr
  · rename_i y x rr
    obtain ⟨q_y, rst0, rfl, h_y, hR1⟩ := js_RL_c hR
    have h_y : q_y = .int y := h_y
    subst h_y
    obtain ⟨q_x, rst1, rfl, h_x, hR2⟩ := js_RL_c hR1
    have h_x : q_x = .int x := h_x
    subst h_x
    have hR := hR2
    split at hr
    · cases hr
    · rename_i hy
      exact lv_idiv hx hb hd hy (kk _ _ _ _ _ _ _ _ hr hS hL ⟨rfl, hR⟩ (jx_le_r _))
  · cases hr
theorem st_irem {m pc : Nat}  (hd : decode (js_b m) pc = .ok (.irem, 1)) : js_St m pc (o_rem (pc + 1)) := by
  intro p l e R s mth args below meth c Q G H locs ls st h rls rst C K r c0 s0 hC hS hL hR hc hs hRc hRs hRf hRl hm hr kk
  obtain ⟨hx, hb, hml, hown, hts, hlk, hE, hB⟩ := hC
  unfold o_rem at hr
  split at hr
  · rename_i y x rr
    obtain ⟨q_y, rst0, rfl, h_y, hR1⟩ := js_RL_c hR
    have h_y : q_y = .int y := h_y
    subst h_y
    obtain ⟨q_x, rst1, rfl, h_x, hR2⟩ := js_RL_c hR1
    have h_x : q_x = .int x := h_x
    subst h_x
    have hR := hR2
    split at hr
    · cases hr
    · rename_i hy
      exact lv_irem hx hb hd hy (kk _ _ _ _ _ _ _ _ hr hS hL ⟨rfl, hR⟩ (jx_le_r _))
  · cases hr
theorem st_lcmp {m pc : Nat}  (hd : decode (js_b m) pc = .ok (.lcmp, 1)) : js_St m pc (o_lcmp (pc + 1)) := by
  intro p l e R s mth args below meth c Q G H locs ls st h rls rst C K r c0 s0 hC hS hL hR hc hs hRc hRs hRf hRl hm hr kk
  obtain ⟨hx, hb, hml, hown, hts, hlk, hE, hB⟩ := hC
  unfold o_lcmp at hr
  split at hr
  · rename_i y x rr
    obtain ⟨q_y, rst0, rfl, h_y, hR1⟩ := js_RL_c hR
    have h_y : q_y = .long y := h_y
    subst h_y
    obtain ⟨q_x, rst1, rfl, h_x, hR2⟩ := js_RL_c hR1
    have h_x : q_x = .long x := h_x
    subst h_x
    have hR := hR2
    exact W.lcmp hx hb hd (kk _ _ _ _ _ _ _ _ hr hS hL ⟨rfl, hR⟩ (jx_le_r _))
  · cases hr
theorem st_i2c {m pc : Nat}  (hd : decode (js_b m) pc = .ok (.i2c, 1)) : js_St m pc (o_u (fun x => (x.toUInt32 % 65536).toInt32) (pc + 1)) := by
  intro p l e R s mth args below meth c Q G H locs ls st h rls rst C K r c0 s0 hC hS hL hR hc hs hRc hRs hRf hRl hm hr kk
  obtain ⟨hx, hb, hml, hown, hts, hlk, hE, hB⟩ := hC
  unfold o_u at hr
  split at hr
  · rename_i x rr
    obtain ⟨q_x, rst0, rfl, h_x, hR1⟩ := js_RL_c hR
    have h_x : q_x = .int x := h_x
    subst h_x
    have hR := hR1
    exact lv_i2c hx hb hd rfl (kk _ _ _ _ _ _ _ _ hr hS hL ⟨rfl, hR⟩ (jx_le_r _))
  · cases hr
theorem st_i2b {m pc : Nat}  (hd : decode (js_b m) pc = .ok (.i2b, 1)) : js_St m pc (o_u (fun x => x.toInt8.toInt32) (pc + 1)) := by
  intro p l e R s mth args below meth c Q G H locs ls st h rls rst C K r c0 s0 hC hS hL hR hc hs hRc hRs hRf hRl hm hr kk
  obtain ⟨hx, hb, hml, hown, hts, hlk, hE, hB⟩ := hC
  unfold o_u at hr
  split at hr
  · rename_i x rr
    obtain ⟨q_x, rst0, rfl, h_x, hR1⟩ := js_RL_c hR
    have h_x : q_x = .int x := h_x
    subst h_x
    have hR := hR1
    exact lv_i2b hx hb hd rfl (kk _ _ _ _ _ _ _ _ hr hS hL ⟨rfl, hR⟩ (jx_le_r _))
  · cases hr
theorem st_ineg {m pc : Nat}  (hd : decode (js_b m) pc = .ok (.ineg, 1)) : js_St m pc (o_u (fun x => -x) (pc + 1)) := by
  intro p l e R s mth args below meth c Q G H locs ls st h rls rst C K r c0 s0 hC hS hL hR hc hs hRc hRs hRf hRl hm hr kk
  obtain ⟨hx, hb, hml, hown, hts, hlk, hE, hB⟩ := hC
  unfold o_u at hr
  split at hr
  · rename_i x rr
    obtain ⟨q_x, rst0, rfl, h_x, hR1⟩ := js_RL_c hR
    have h_x : q_x = .int x := h_x
    subst h_x
    have hR := hR1
    exact lv_ineg hx hb hd (kk _ _ _ _ _ _ _ _ hr hS hL ⟨rfl, hR⟩ (jx_le_r _))
  · cases hr
theorem st_i2l {m pc : Nat}  (hd : decode (js_b m) pc = .ok (.i2l, 1)) : js_St m pc (o_i2l (pc + 1)) := by
  intro p l e R s mth args below meth c Q G H locs ls st h rls rst C K r c0 s0 hC hS hL hR hc hs hRc hRs hRf hRl hm hr kk
  obtain ⟨hx, hb, hml, hown, hts, hlk, hE, hB⟩ := hC
  unfold o_i2l at hr
  split at hr
  · rename_i x rr
    obtain ⟨q_x, rst0, rfl, h_x, hR1⟩ := js_RL_c hR
    have h_x : q_x = .int x := h_x
    subst h_x
    have hR := hR1
    exact lv_i2l hx hb hd rfl (kk _ _ _ _ _ _ _ _ hr hS hL ⟨rfl, hR⟩ (jx_le_r _))
  · cases hr
theorem st_l2i {m pc : Nat}  (hd : decode (js_b m) pc = .ok (.l2i, 1)) : js_St m pc (o_l2i (pc + 1)) := by
  intro p l e R s mth args below meth c Q G H locs ls st h rls rst C K r c0 s0 hC hS hL hR hc hs hRc hRs hRf hRl hm hr kk
  obtain ⟨hx, hb, hml, hown, hts, hlk, hE, hB⟩ := hC
  unfold o_l2i at hr
  split at hr
  · rename_i x rr
    obtain ⟨q_x, rst0, rfl, h_x, hR1⟩ := js_RL_c hR
    have h_x : q_x = .long x := h_x
    subst h_x
    have hR := hR1
    exact lv_l2i hx hb hd rfl (kk _ _ _ _ _ _ _ _ hr hS hL ⟨rfl, hR⟩ (jx_le_r _))
  · cases hr
theorem st_i2f {m pc : Nat}  (hd : decode (js_b m) pc = .ok (.i2f, 1)) : js_St m pc (o_i2f (pc + 1)) := by
  intro p l e R s mth args below meth c Q G H locs ls st h rls rst C K r c0 s0 hC hS hL hR hc hs hRc hRs hRf hRl hm hr kk
  obtain ⟨hx, hb, hml, hown, hts, hlk, hE, hB⟩ := hC
  unfold o_i2f at hr
  split at hr
  · rename_i x rr
    obtain ⟨q_x, rst0, rfl, h_x, hR1⟩ := js_RL_c hR
    have h_x : q_x = .int x := h_x
    subst h_x
    have hR := hR1
    exact lv_i2f hx hb hd (kk _ _ _ _ _ _ _ _ hr hS hL ⟨rfl, hR⟩ (jx_le_r _))
  · cases hr
theorem st_i2d {m pc : Nat}  (hd : decode (js_b m) pc = .ok (.i2d, 1)) : js_St m pc (o_i2d (pc + 1)) := by
  intro p l e R s mth args below meth c Q G H locs ls st h rls rst C K r c0 s0 hC hS hL hR hc hs hRc hRs hRf hRl hm hr kk
  obtain ⟨hx, hb, hml, hown, hts, hlk, hE, hB⟩ := hC
  unfold o_i2d at hr
  split at hr
  · rename_i x rr
    obtain ⟨q_x, rst0, rfl, h_x, hR1⟩ := js_RL_c hR
    have h_x : q_x = .int x := h_x
    subst h_x
    have hR := hR1
    exact lv_i2d hx hb hd (kk _ _ _ _ _ _ _ _ hr hS hL ⟨rfl, hR⟩ (jx_le_r _))
  · cases hr
theorem st_f2i {m pc : Nat}  (hd : decode (js_b m) pc = .ok (.f2i, 1)) : js_St m pc (o_f2i (pc + 1)) := by
  intro p l e R s mth args below meth c Q G H locs ls st h rls rst C K r c0 s0 hC hS hL hR hc hs hRc hRs hRf hRl hm hr kk
  obtain ⟨hx, hb, hml, hown, hts, hlk, hE, hB⟩ := hC
  unfold o_f2i at hr
  split at hr
  · rename_i x rr
    obtain ⟨q_x, rst0, rfl, h_x, hR1⟩ := js_RL_c hR
    have h_x : q_x = .float x := h_x
    subst h_x
    have hR := hR1
    exact lv_f2i hx hb hd (kk _ _ _ _ _ _ _ _ hr hS hL ⟨rfl, hR⟩ (jx_le_r _))
  · cases hr
theorem st_f2d {m pc : Nat}  (hd : decode (js_b m) pc = .ok (.f2d, 1)) : js_St m pc (o_f2d (pc + 1)) := by
  intro p l e R s mth args below meth c Q G H locs ls st h rls rst C K r c0 s0 hC hS hL hR hc hs hRc hRs hRf hRl hm hr kk
  obtain ⟨hx, hb, hml, hown, hts, hlk, hE, hB⟩ := hC
  unfold o_f2d at hr
  split at hr
  · rename_i x rr
    obtain ⟨q_x, rst0, rfl, h_x, hR1⟩ := js_RL_c hR
    have h_x : q_x = .float x := h_x
    subst h_x
    have hR := hR1
    obtain ⟨hn, hr⟩ := jx_n64_i hr
    exact lv_f2d hx hb hd (js_n64 hn) (kk _ _ _ _ _ _ _ _ hr hS hL ⟨rfl, hR⟩ (jx_le_r _))
  · cases hr
theorem st_fdiv {m pc : Nat}  (hd : decode (js_b m) pc = .ok (.fdiv, 1)) : js_St m pc (o_F2 FP.fdiv (pc + 1)) := by
  intro p l e R s mth args below meth c Q G H locs ls st h rls rst C K r c0 s0 hC hS hL hR hc hs hRc hRs hRf hRl hm hr kk
  obtain ⟨hx, hb, hml, hown, hts, hlk, hE, hB⟩ := hC
  unfold o_F2 at hr
  split at hr
  · rename_i y x rr
    obtain ⟨q_y, rst0, rfl, h_y, hR1⟩ := js_RL_c hR
    have h_y : q_y = .float y := h_y
    subst h_y
    obtain ⟨q_x, rst1, rfl, h_x, hR2⟩ := js_RL_c hR1
    have h_x : q_x = .float x := h_x
    subst h_x
    have hR := hR2
    obtain ⟨hn, hr⟩ := jx_n32_i hr
    exact lv_fdiv hx hb hd (js_n32 hn) (kk _ _ _ _ _ _ _ _ hr hS hL ⟨rfl, hR⟩ (jx_le_r _))
  · cases hr
theorem st_fmul {m pc : Nat}  (hd : decode (js_b m) pc = .ok (.fmul, 1)) : js_St m pc (o_F2 FP.fmul (pc + 1)) := by
  intro p l e R s mth args below meth c Q G H locs ls st h rls rst C K r c0 s0 hC hS hL hR hc hs hRc hRs hRf hRl hm hr kk
  obtain ⟨hx, hb, hml, hown, hts, hlk, hE, hB⟩ := hC
  unfold o_F2 at hr
  split at hr
  · rename_i y x rr
    obtain ⟨q_y, rst0, rfl, h_y, hR1⟩ := js_RL_c hR
    have h_y : q_y = .float y := h_y
    subst h_y
    obtain ⟨q_x, rst1, rfl, h_x, hR2⟩ := js_RL_c hR1
    have h_x : q_x = .float x := h_x
    subst h_x
    have hR := hR2
    obtain ⟨hn, hr⟩ := jx_n32_i hr
    exact lv_fmul hx hb hd (js_n32 hn) (kk _ _ _ _ _ _ _ _ hr hS hL ⟨rfl, hR⟩ (jx_le_r _))
  · cases hr
theorem st_fsub {m pc : Nat}  (hd : decode (js_b m) pc = .ok (.fsub, 1)) : js_St m pc (o_F2 FP.fsub (pc + 1)) := by
  intro p l e R s mth args below meth c Q G H locs ls st h rls rst C K r c0 s0 hC hS hL hR hc hs hRc hRs hRf hRl hm hr kk
  obtain ⟨hx, hb, hml, hown, hts, hlk, hE, hB⟩ := hC
  unfold o_F2 at hr
  split at hr
  · rename_i y x rr
    obtain ⟨q_y, rst0, rfl, h_y, hR1⟩ := js_RL_c hR
    have h_y : q_y = .float y := h_y
    subst h_y
    obtain ⟨q_x, rst1, rfl, h_x, hR2⟩ := js_RL_c hR1
    have h_x : q_x = .float x := h_x
    subst h_x
    have hR := hR2
    obtain ⟨hn, hr⟩ := jx_n32_i hr
    exact lv_fsub hx hb hd (js_n32 hn) (kk _ _ _ _ _ _ _ _ hr hS hL ⟨rfl, hR⟩ (jx_le_r _))
  · cases hr
theorem st_ddiv {m pc : Nat}  (hd : decode (js_b m) pc = .ok (.ddiv, 1)) : js_St m pc (o_D2 FP.ddiv (pc + 1)) := by
  intro p l e R s mth args below meth c Q G H locs ls st h rls rst C K r c0 s0 hC hS hL hR hc hs hRc hRs hRf hRl hm hr kk
  obtain ⟨hx, hb, hml, hown, hts, hlk, hE, hB⟩ := hC
  unfold o_D2 at hr
  split at hr
  · rename_i y x rr
    obtain ⟨q_y, rst0, rfl, h_y, hR1⟩ := js_RL_c hR
    have h_y : q_y = .double y := h_y
    subst h_y
    obtain ⟨q_x, rst1, rfl, h_x, hR2⟩ := js_RL_c hR1
    have h_x : q_x = .double x := h_x
    subst h_x
    have hR := hR2
    obtain ⟨hn, hr⟩ := jx_n64_i hr
    exact lv_ddiv hx hb hd (js_n64 hn) (kk _ _ _ _ _ _ _ _ hr hS hL ⟨rfl, hR⟩ (jx_le_r _))
  · cases hr
theorem st_fcmp {m pc : Nat} {o : CmpOp} (hd : decode (js_b m) pc = .ok (.fcmp o, 1)) : js_St m pc (o_fcmp o (pc + 1)) := by
  intro p l e R s mth args below meth c Q G H locs ls st h rls rst C K r c0 s0 hC hS hL hR hc hs hRc hRs hRf hRl hm hr kk
  obtain ⟨hx, hb, hml, hown, hts, hlk, hE, hB⟩ := hC
  unfold o_fcmp at hr
  split at hr
  · rename_i y x rr
    obtain ⟨q_y, rst0, rfl, h_y, hR1⟩ := js_RL_c hR
    have h_y : q_y = .float y := h_y
    subst h_y
    obtain ⟨q_x, rst1, rfl, h_x, hR2⟩ := js_RL_c hR1
    have h_x : q_x = .float x := h_x
    subst h_x
    have hR := hR2
    exact lv_fcmp hx hb hd (kk _ _ _ _ _ _ _ _ hr hS hL ⟨rfl, hR⟩ (jx_le_r _))
  · cases hr
theorem st_dcmp {m pc : Nat} {o : CmpOp} (hd : decode (js_b m) pc = .ok (.dcmp o, 1)) : js_St m pc (o_dcmp o (pc + 1)) := by
  intro p l e R s mth args below meth c Q G H locs ls st h rls rst C K r c0 s0 hC hS hL hR hc hs hRc hRs hRf hRl hm hr kk
  obtain ⟨hx, hb, hml, hown, hts, hlk, hE, hB⟩ := hC
  unfold o_dcmp at hr
  split at hr
  · rename_i y x rr
    obtain ⟨q_y, rst0, rfl, h_y, hR1⟩ := js_RL_c hR
    have h_y : q_y = .double y := h_y
    subst h_y
    obtain ⟨q_x, rst1, rfl, h_x, hR2⟩ := js_RL_c hR1
    have h_x : q_x = .double x := h_x
    subst h_x
    have hR := hR2
    exact lv_dcmp hx hb hd (kk _ _ _ _ _ _ _ _ hr hS hL ⟨rfl, hR⟩ (jx_le_r _))
  · cases hr
theorem st_dup {m pc : Nat}  (hd : decode (js_b m) pc = .ok (.dup, 1)) : js_St m pc (o_dup (pc + 1)) := by
  intro p l e R s mth args below meth c Q G H locs ls st h rls rst C K r c0 s0 hC hS hL hR hc hs hRc hRs hRf hRl hm hr kk
  obtain ⟨hx, hb, hml, hown, hts, hlk, hE, hB⟩ := hC
  unfold o_dup at hr
  split at hr
  · rename_i x rr
    obtain ⟨q_x, rst0, rfl, h_x, hR1⟩ := js_RL_c hR
    have h_x : q_x = .ref (js_ad G x) := h_x
    subst h_x
    have hR := hR1
    exact lv_dup hx hb hd rfl (kk _ _ _ _ _ _ _ _ hr hS hL ⟨rfl, rfl, hR⟩ (jx_le_r _))
  · rename_i x rr
    obtain ⟨q_x, rst0, rfl, h_x, hR1⟩ := js_RL_c hR
    have h_x : q_x = .int x := h_x
    subst h_x
    have hR := hR1
    exact lv_dup hx hb hd rfl (kk _ _ _ _ _ _ _ _ hr hS hL ⟨rfl, rfl, hR⟩ (jx_le_r _))
  · cases hr
theorem st_dup_x1 {m pc : Nat}  (hd : decode (js_b m) pc = .ok (.dup_x1, 1)) : js_St m pc (o_dx1 (pc + 1)) := by
  intro p l e R s mth args below meth c Q G H locs ls st h rls rst C K r c0 s0 hC hS hL hR hc hs hRc hRs hRf hRl hm hr kk
  obtain ⟨hx, hb, hml, hown, hts, hlk, hE, hB⟩ := hC
  unfold o_dx1 at hr
  split at hr
  · rename_i y x rr
    obtain ⟨q_y, rst0, rfl, h_y, hR1⟩ := js_RL_c hR
    have h_y : q_y = .int y := h_y
    subst h_y
    obtain ⟨q_x, rst1, rfl, h_x, hR2⟩ := js_RL_c hR1
    have h_x : q_x = .ref (js_ad G x) := h_x
    subst h_x
    have hR := hR2
    exact lv_dup_x1 hx hb hd rfl rfl (kk _ _ _ _ _ _ _ _ hr hS hL ⟨rfl, rfl, rfl, hR⟩ (jx_le_r _))
  · cases hr
theorem st_dup2 {m pc : Nat}  (hd : decode (js_b m) pc = .ok (.dup2, 1)) : js_St m pc (o_d11 (pc + 1)) := by
  intro p l e R s mth args below meth c Q G H locs ls st h rls rst C K r c0 s0 hC hS hL hR hc hs hRc hRs hRf hRl hm hr kk
  obtain ⟨hx, hb, hml, hown, hts, hlk, hE, hB⟩ := hC
  unfold o_d11 at hr
  split at hr
  · rename_i y x rr
    obtain ⟨q_y, rst0, rfl, h_y, hR1⟩ := js_RL_c hR
    have h_y : q_y = .int y := h_y
    subst h_y
    obtain ⟨q_x, rst1, rfl, h_x, hR2⟩ := js_RL_c hR1
    have h_x : q_x = .ref (js_ad G x) := h_x
    subst h_x
    have hR := hR2
    exact lv_dup2_11 hx hb hd rfl rfl (kk _ _ _ _ _ _ _ _ hr hS hL ⟨rfl, rfl, rfl, rfl, hR⟩ (jx_le_r _))
  · cases hr
theorem st_pop {m pc : Nat}  (hd : decode (js_b m) pc = .ok (.pop, 1)) : js_St m pc (o_pop (pc + 1)) := by
  intro p l e R s mth args below meth c Q G H locs ls st h rls rst C K r c0 s0 hC hS hL hR hc hs hRc hRs hRf hRl hm hr kk
  obtain ⟨hx, hb, hml, hown, hts, hlk, hE, hB⟩ := hC
  unfold o_pop at hr
  split at hr
  · rename_i x rr
    obtain ⟨q_x, rst0, rfl, h_x, hR1⟩ := js_RL_c hR
    have h_x : q_x = .int x := h_x
    subst h_x
    have hR := hR1
    exact lv_pop hx hb hd rfl (kk _ _ _ _ _ _ _ _ hr hS hL hR (jx_le_r _))
  · rename_i x rr
    obtain ⟨q_x, rst0, rfl, h_x, hR1⟩ := js_RL_c hR
    have h_x : q_x = .ref (js_ad G x) := h_x
    subst h_x
    have hR := hR1
    exact lv_pop hx hb hd rfl (kk _ _ _ _ _ _ _ _ hr hS hL hR (jx_le_r _))
  · cases hr
theorem st_goto {m pc : Nat} {off : Int} {t : Nat} (ht : (pc : Int) + off = (t : Int)) (hd : decode (js_b m) pc = .ok (.goto off, 3)) : js_St m pc (o_go t) := by
  intro p l e R s mth args below meth c Q G H locs ls st h rls rst C K r c0 s0 hC hS hL hR hc hs hRc hRs hRf hRl hm hr kk
  obtain ⟨hx, hb, hml, hown, hts, hlk, hE, hB⟩ := hC
  unfold o_go at hr
  exact lv_goto hx hb hd ht (kk _ _ _ _ _ _ _ _ hr hS hL hR (jx_le_r _))
theorem st_ifeq {m pc : Nat} {off : Int} {t : Nat} (ht : (pc : Int) + off = (t : Int)) (hd : decode (js_b m) pc = .ok (.ifCond .eq off, 3)) : js_St m pc (o_eq t (pc + 3)) := by
  intro p l e R s mth args below meth c Q G H locs ls st h rls rst C K r c0 s0 hC hS hL hR hc hs hRc hRs hRf hRl hm hr kk
  obtain ⟨hx, hb, hml, hown, hts, hlk, hE, hB⟩ := hC
  unfold o_eq at hr
  split at hr
  · rename_i x rr
    obtain ⟨q_x, rst0, rfl, h_x, hR1⟩ := js_RL_c hR
    have h_x : q_x = .int x := h_x
    subst h_x
    have hR := hR1
    refine lv_if_eq hx hb hd ht (fun hc => ?_) (fun hc => ?_)
    · rw [if_pos hc] at hr
      exact kk _ _ _ _ _ _ _ _ hr hS hL hR (jx_le_r _)
    · rw [if_neg hc] at hr
      exact kk _ _ _ _ _ _ _ _ hr hS hL hR (jx_le_r _)
  · cases hr
theorem st_iceq {m pc : Nat} {off : Int} {t : Nat} (ht : (pc : Int) + off = (t : Int)) (hd : decode (js_b m) pc = .ok (.if_icmp .eq off, 3)) : js_St m pc (o_ceq t (pc + 3)) := by
  intro p l e R s mth args below meth c Q G H locs ls st h rls rst C K r c0 s0 hC hS hL hR hc hs hRc hRs hRf hRl hm hr kk
  obtain ⟨hx, hb, hml, hown, hts, hlk, hE, hB⟩ := hC
  unfold o_ceq at hr
  split at hr
  · rename_i y x rr
    obtain ⟨q_y, rst0, rfl, h_y, hR1⟩ := js_RL_c hR
    have h_y : q_y = .int y := h_y
    subst h_y
    obtain ⟨q_x, rst1, rfl, h_x, hR2⟩ := js_RL_c hR1
    have h_x : q_x = .int x := h_x
    subst h_x
    have hR := hR2
    refine lv_icmp_eq hx hb hd ht (fun hc => ?_) (fun hc => ?_)
    · rw [if_pos hc] at hr
      exact kk _ _ _ _ _ _ _ _ hr hS hL hR (jx_le_r _)
    · rw [if_neg hc] at hr
      exact kk _ _ _ _ _ _ _ _ hr hS hL hR (jx_le_r _)
  · cases hr
theorem st_ifne {m pc : Nat} {off : Int} {t : Nat} (ht : (pc : Int) + off = (t : Int)) (hd : decode (js_b m) pc = .ok (.ifCond .ne off, 3)) : js_St m pc (o_ne t (pc + 3)) := by
  intro p l e R s mth args below meth c Q G H locs ls st h rls rst C K r c0 s0 hC hS hL hR hc hs hRc hRs hRf hRl hm hr kk
  obtain ⟨hx, hb, hml, hown, hts, hlk, hE, hB⟩ := hC
  unfold o_ne at hr
  split at hr
  · rename_i x rr
    obtain ⟨q_x, rst0, rfl, h_x, hR1⟩ := js_RL_c hR
    have h_x : q_x = .int x := h_x
    subst h_x
    have hR := hR1
    refine lv_if_ne hx hb hd ht (fun hc => ?_) (fun hc => ?_)
    · rw [if_neg hc] at hr
      exact kk _ _ _ _ _ _ _ _ hr hS hL hR (jx_le_r _)
    · rw [if_pos hc] at hr
      exact kk _ _ _ _ _ _ _ _ hr hS hL hR (jx_le_r _)
  · cases hr
theorem st_icne {m pc : Nat} {off : Int} {t : Nat} (ht : (pc : Int) + off = (t : Int)) (hd : decode (js_b m) pc = .ok (.if_icmp .ne off, 3)) : js_St m pc (o_cne t (pc + 3)) := by
  intro p l e R s mth args below meth c Q G H locs ls st h rls rst C K r c0 s0 hC hS hL hR hc hs hRc hRs hRf hRl hm hr kk
  obtain ⟨hx, hb, hml, hown, hts, hlk, hE, hB⟩ := hC
  unfold o_cne at hr
  split at hr
  · rename_i y x rr
    obtain ⟨q_y, rst0, rfl, h_y, hR1⟩ := js_RL_c hR
    have h_y : q_y = .int y := h_y
    subst h_y
    obtain ⟨q_x, rst1, rfl, h_x, hR2⟩ := js_RL_c hR1
    have h_x : q_x = .int x := h_x
    subst h_x
    have hR := hR2
    refine lv_icmp_ne hx hb hd ht (fun hc => ?_) (fun hc => ?_)
    · rw [if_neg hc] at hr
      exact kk _ _ _ _ _ _ _ _ hr hS hL hR (jx_le_r _)
    · rw [if_pos hc] at hr
      exact kk _ _ _ _ _ _ _ _ hr hS hL hR (jx_le_r _)
  · cases hr
theorem st_iflt {m pc : Nat} {off : Int} {t : Nat} (ht : (pc : Int) + off = (t : Int)) (hd : decode (js_b m) pc = .ok (.ifCond .lt off, 3)) : js_St m pc (o_lt t (pc + 3)) := by
  intro p l e R s mth args below meth c Q G H locs ls st h rls rst C K r c0 s0 hC hS hL hR hc hs hRc hRs hRf hRl hm hr kk
  obtain ⟨hx, hb, hml, hown, hts, hlk, hE, hB⟩ := hC
  unfold o_lt at hr
  split at hr
  · rename_i x rr
    obtain ⟨q_x, rst0, rfl, h_x, hR1⟩ := js_RL_c hR
    have h_x : q_x = .int x := h_x
    subst h_x
    have hR := hR1
    refine lv_if_lt hx hb hd ht (fun hc => ?_) (fun hc => ?_)
    · rw [if_pos hc] at hr
      exact kk _ _ _ _ _ _ _ _ hr hS hL hR (jx_le_r _)
    · rw [if_neg hc] at hr
      exact kk _ _ _ _ _ _ _ _ hr hS hL hR (jx_le_r _)
  · cases hr
theorem st_iclt {m pc : Nat} {off : Int} {t : Nat} (ht : (pc : Int) + off = (t : Int)) (hd : decode (js_b m) pc = .ok (.if_icmp .lt off, 3)) : js_St m pc (o_clt t (pc + 3)) := by
  intro p l e R s mth args below meth c Q G H locs ls st h rls rst C K r c0 s0 hC hS hL hR hc hs hRc hRs hRf hRl hm hr kk
  obtain ⟨hx, hb, hml, hown, hts, hlk, hE, hB⟩ := hC
  unfold o_clt at hr
  split at hr
  · rename_i y x rr
    obtain ⟨q_y, rst0, rfl, h_y, hR1⟩ := js_RL_c hR
    have h_y : q_y = .int y := h_y
    subst h_y
    obtain ⟨q_x, rst1, rfl, h_x, hR2⟩ := js_RL_c hR1
    have h_x : q_x = .int x := h_x
    subst h_x
    have hR := hR2
    refine lv_icmp_lt hx hb hd ht (fun hc => ?_) (fun hc => ?_)
    · rw [if_pos hc] at hr
      exact kk _ _ _ _ _ _ _ _ hr hS hL hR (jx_le_r _)
    · rw [if_neg hc] at hr
      exact kk _ _ _ _ _ _ _ _ hr hS hL hR (jx_le_r _)
  · cases hr
theorem st_ifge {m pc : Nat} {off : Int} {t : Nat} (ht : (pc : Int) + off = (t : Int)) (hd : decode (js_b m) pc = .ok (.ifCond .ge off, 3)) : js_St m pc (o_ge t (pc + 3)) := by
  intro p l e R s mth args below meth c Q G H locs ls st h rls rst C K r c0 s0 hC hS hL hR hc hs hRc hRs hRf hRl hm hr kk
  obtain ⟨hx, hb, hml, hown, hts, hlk, hE, hB⟩ := hC
  unfold o_ge at hr
  split at hr
  · rename_i x rr
    obtain ⟨q_x, rst0, rfl, h_x, hR1⟩ := js_RL_c hR
    have h_x : q_x = .int x := h_x
    subst h_x
    have hR := hR1
    refine lv_if_ge hx hb hd ht (fun hc => ?_) (fun hc => ?_)
    · rw [if_pos hc] at hr
      exact kk _ _ _ _ _ _ _ _ hr hS hL hR (jx_le_r _)
    · rw [if_neg hc] at hr
      exact kk _ _ _ _ _ _ _ _ hr hS hL hR (jx_le_r _)
  · cases hr
theorem st_icge {m pc : Nat} {off : Int} {t : Nat} (ht : (pc : Int) + off = (t : Int)) (hd : decode (js_b m) pc = .ok (.if_icmp .ge off, 3)) : js_St m pc (o_cge t (pc + 3)) := by
  intro p l e R s mth args below meth c Q G H locs ls st h rls rst C K r c0 s0 hC hS hL hR hc hs hRc hRs hRf hRl hm hr kk
  obtain ⟨hx, hb, hml, hown, hts, hlk, hE, hB⟩ := hC
  unfold o_cge at hr
  split at hr
  · rename_i y x rr
    obtain ⟨q_y, rst0, rfl, h_y, hR1⟩ := js_RL_c hR
    have h_y : q_y = .int y := h_y
    subst h_y
    obtain ⟨q_x, rst1, rfl, h_x, hR2⟩ := js_RL_c hR1
    have h_x : q_x = .int x := h_x
    subst h_x
    have hR := hR2
    refine lv_icmp_ge hx hb hd ht (fun hc => ?_) (fun hc => ?_)
    · rw [if_pos hc] at hr
      exact kk _ _ _ _ _ _ _ _ hr hS hL hR (jx_le_r _)
    · rw [if_neg hc] at hr
      exact kk _ _ _ _ _ _ _ _ hr hS hL hR (jx_le_r _)
  · cases hr
theorem st_ifgt {m pc : Nat} {off : Int} {t : Nat} (ht : (pc : Int) + off = (t : Int)) (hd : decode (js_b m) pc = .ok (.ifCond .gt off, 3)) : js_St m pc (o_gt t (pc + 3)) := by
  intro p l e R s mth args below meth c Q G H locs ls st h rls rst C K r c0 s0 hC hS hL hR hc hs hRc hRs hRf hRl hm hr kk
  obtain ⟨hx, hb, hml, hown, hts, hlk, hE, hB⟩ := hC
  unfold o_gt at hr
  split at hr
  · rename_i x rr
    obtain ⟨q_x, rst0, rfl, h_x, hR1⟩ := js_RL_c hR
    have h_x : q_x = .int x := h_x
    subst h_x
    have hR := hR1
    refine lv_if_gt hx hb hd ht (fun hc => ?_) (fun hc => ?_)
    · rw [if_pos hc] at hr
      exact kk _ _ _ _ _ _ _ _ hr hS hL hR (jx_le_r _)
    · rw [if_neg hc] at hr
      exact kk _ _ _ _ _ _ _ _ hr hS hL hR (jx_le_r _)
  · cases hr
theorem st_icgt {m pc : Nat} {off : Int} {t : Nat} (ht : (pc : Int) + off = (t : Int)) (hd : decode (js_b m) pc = .ok (.if_icmp .gt off, 3)) : js_St m pc (o_cgt t (pc + 3)) := by
  intro p l e R s mth args below meth c Q G H locs ls st h rls rst C K r c0 s0 hC hS hL hR hc hs hRc hRs hRf hRl hm hr kk
  obtain ⟨hx, hb, hml, hown, hts, hlk, hE, hB⟩ := hC
  unfold o_cgt at hr
  split at hr
  · rename_i y x rr
    obtain ⟨q_y, rst0, rfl, h_y, hR1⟩ := js_RL_c hR
    have h_y : q_y = .int y := h_y
    subst h_y
    obtain ⟨q_x, rst1, rfl, h_x, hR2⟩ := js_RL_c hR1
    have h_x : q_x = .int x := h_x
    subst h_x
    have hR := hR2
    refine lv_icmp_gt hx hb hd ht (fun hc => ?_) (fun hc => ?_)
    · rw [if_pos hc] at hr
      exact kk _ _ _ _ _ _ _ _ hr hS hL hR (jx_le_r _)
    · rw [if_neg hc] at hr
      exact kk _ _ _ _ _ _ _ _ hr hS hL hR (jx_le_r _)
  · cases hr
theorem st_ifle {m pc : Nat} {off : Int} {t : Nat} (ht : (pc : Int) + off = (t : Int)) (hd : decode (js_b m) pc = .ok (.ifCond .le off, 3)) : js_St m pc (o_le t (pc + 3)) := by
  intro p l e R s mth args below meth c Q G H locs ls st h rls rst C K r c0 s0 hC hS hL hR hc hs hRc hRs hRf hRl hm hr kk
  obtain ⟨hx, hb, hml, hown, hts, hlk, hE, hB⟩ := hC
  unfold o_le at hr
  split at hr
  · rename_i x rr
    obtain ⟨q_x, rst0, rfl, h_x, hR1⟩ := js_RL_c hR
    have h_x : q_x = .int x := h_x
    subst h_x
    have hR := hR1
    refine lv_if_le hx hb hd ht (fun hc => ?_) (fun hc => ?_)
    · rw [if_pos hc] at hr
      exact kk _ _ _ _ _ _ _ _ hr hS hL hR (jx_le_r _)
    · rw [if_neg hc] at hr
      exact kk _ _ _ _ _ _ _ _ hr hS hL hR (jx_le_r _)
  · cases hr
theorem st_icle {m pc : Nat} {off : Int} {t : Nat} (ht : (pc : Int) + off = (t : Int)) (hd : decode (js_b m) pc = .ok (.if_icmp .le off, 3)) : js_St m pc (o_cle t (pc + 3)) := by
  intro p l e R s mth args below meth c Q G H locs ls st h rls rst C K r c0 s0 hC hS hL hR hc hs hRc hRs hRf hRl hm hr kk
  obtain ⟨hx, hb, hml, hown, hts, hlk, hE, hB⟩ := hC
  unfold o_cle at hr
  split at hr
  · rename_i y x rr
    obtain ⟨q_y, rst0, rfl, h_y, hR1⟩ := js_RL_c hR
    have h_y : q_y = .int y := h_y
    subst h_y
    obtain ⟨q_x, rst1, rfl, h_x, hR2⟩ := js_RL_c hR1
    have h_x : q_x = .int x := h_x
    subst h_x
    have hR := hR2
    refine lv_icmp_le hx hb hd ht (fun hc => ?_) (fun hc => ?_)
    · rw [if_pos hc] at hr
      exact kk _ _ _ _ _ _ _ _ hr hS hL hR (jx_le_r _)
    · rw [if_neg hc] at hr
      exact kk _ _ _ _ _ _ _ _ hr hS hL hR (jx_le_r _)
  · cases hr
theorem st_ifnull {m pc : Nat} {off : Int} {t : Nat} (ht : (pc : Int) + off = (t : Int)) (hd : decode (js_b m) pc = .ok (.ifnull off, 3)) : js_St m pc (o_nul t (pc + 3)) := by
  intro p l e R s mth args below meth c Q G H locs ls st h rls rst C K r c0 s0 hC hS hL hR hc hs hRc hRs hRf hRl hm hr kk
  obtain ⟨hx, hb, hml, hown, hts, hlk, hE, hB⟩ := hC
  unfold o_nul at hr
  split at hr
  · rename_i x rr
    obtain ⟨q_x, rst0, rfl, h_x, hR1⟩ := js_RL_c hR
    have h_x : q_x = .ref (js_ad G x) := h_x
    subst h_x
    have hR := hR1
    exact lv_ifnull hx hb hd (kk _ _ _ _ _ _ _ _ hr hS hL hR (jx_le_r _))
  · rename_i rr
    obtain ⟨q_x, rst1, rfl, h_x, hR1⟩ := js_RL_c hR
    have hR := hR1
    have h_x : q_x = .null := h_x
    subst h_x
    exact lv_ifnullN hx hb hd ht (kk _ _ _ _ _ _ _ _ hr hS hL hR1 (jx_le_r _))
  · cases hr
theorem st_ifnonnull {m pc : Nat} {off : Int} {t : Nat} (ht : (pc : Int) + off = (t : Int)) (hd : decode (js_b m) pc = .ok (.ifnonnull off, 3)) : js_St m pc (o_nnl t (pc + 3)) := by
  intro p l e R s mth args below meth c Q G H locs ls st h rls rst C K r c0 s0 hC hS hL hR hc hs hRc hRs hRf hRl hm hr kk
  obtain ⟨hx, hb, hml, hown, hts, hlk, hE, hB⟩ := hC
  unfold o_nnl at hr
  split at hr
  · rename_i x rr
    obtain ⟨q_x, rst0, rfl, h_x, hR1⟩ := js_RL_c hR
    have h_x : q_x = .ref (js_ad G x) := h_x
    subst h_x
    have hR := hR1
    exact lv_ifnonnull hx hb hd ht (kk _ _ _ _ _ _ _ _ hr hS hL hR (jx_le_r _))
  · rename_i rr
    obtain ⟨q_x, rst1, rfl, h_x, hR1⟩ := js_RL_c hR
    have hR := hR1
    have h_x : q_x = .null := h_x
    subst h_x
    exact lv_ifnonnullN hx hb hd (kk _ _ _ _ _ _ _ _ hr hS hL hR1 (jx_le_r _))
  · cases hr
theorem st_acmpne {m pc : Nat} {off : Int} {t : Nat} (ht : (pc : Int) + off = (t : Int)) (hd : decode (js_b m) pc = .ok (.if_acmp .ne off, 3)) : js_St m pc (o_ane t (pc + 3)) := by
  intro p l e R s mth args below meth c Q G H locs ls st h rls rst C K r c0 s0 hC hS hL hR hc hs hRc hRs hRf hRl hm hr kk
  obtain ⟨hx, hb, hml, hown, hts, hlk, hE, hB⟩ := hC
  unfold o_ane at hr
  split at hr
  · rename_i y x rr
    obtain ⟨q_y, rst0, rfl, h_y, hR1⟩ := js_RL_c hR
    have h_y : q_y = .ref (js_ad G y) := h_y
    subst h_y
    obtain ⟨q_x, rst1, rfl, h_x, hR2⟩ := js_RL_c hR1
    have h_x : q_x = .ref (js_ad G x) := h_x
    subst h_x
    have hR := hR2
    split at hr
    · rename_i hc9
      refine lv_acmp_ne (rx := some (js_ad G x)) (ry := some (js_ad G y)) hx hb hd ht (fun hc => ?_) (fun hc => ?_)
      · rw [if_neg (fun z => hc (by rw [z]))] at hr
        exact kk _ _ _ _ _ _ _ _ hr hS hL hR (jx_le_r _)
      · have hxy : x = y := by
          have z := Option.some.inj hc
          unfold js_ad at z
          rw [if_neg (Nat.not_lt.mpr hc9.1), if_neg (Nat.not_lt.mpr hc9.2)] at z
          have z1 : 200 ≤ x := hc9.1
          have z2 : 200 ≤ y := hc9.2
          have z3 : x - 200 = y - 200 := Nat.add_left_cancel z
          exact (Nat.sub_add_cancel z1).symm.trans ((congrArg (· + 200) z3).trans (Nat.sub_add_cancel z2))
        rw [if_pos hxy] at hr
        exact kk _ _ _ _ _ _ _ _ hr hS hL hR (jx_le_r _)
    · cases hr
  · cases hr
theorem st_istore {m pc : Nat}  {i : Nat} (hi9 : i < jx_M m) (hd : decode (js_b m) pc = .ok (.istore i, 2)) : js_St m pc (o_is i (pc + 2)) := by
  intro p l e R s mth args below meth c Q G H locs ls st h rls rst C K r c0 s0 hC hS hL hR hc hs hRc hRs hRf hRl hm hr kk
  obtain ⟨hx, hb, hml, hown, hts, hlk, hE, hB⟩ := hC
  unfold o_is at hr
  split at hr
  · rename_i x rr
    obtain ⟨q_x, rst0, rfl, h_x, hR1⟩ := js_RL_c hR
    have h_x : q_x = .int x := h_x
    subst h_x
    have hR := hR1
    exact lv_istore hx hb hd (js_L_has hL) hi9 rfl (fun rls' hl' => kk _ _ _ _ _ _ _ _ hr hS (js_L_s1 (fun _ => rfl) (fun _ z => z) hl') hR (jx_le_r _))
  · cases hr
theorem st_istoren {m pc : Nat} {k : Fin 4} {i : Nat} (hi : (k : Nat) = i) (hi9 : i < jx_M m) (hd : decode (js_b m) pc = .ok (.istore_n k, 1)) : js_St m pc (o_is i (pc + 1)) := by
  intro p l e R s mth args below meth c Q G H locs ls st h rls rst C K r c0 s0 hC hS hL hR hc hs hRc hRs hRf hRl hm hr kk
  obtain ⟨hx, hb, hml, hown, hts, hlk, hE, hB⟩ := hC
  unfold o_is at hr
  split at hr
  · rename_i x rr
    obtain ⟨q_x, rst0, rfl, h_x, hR1⟩ := js_RL_c hR
    have h_x : q_x = .int x := h_x
    subst h_x
    have hR := hR1
    exact lv_istore_n hx hb hd hi (js_L_has hL) hi9 rfl (fun rls' hl' => kk _ _ _ _ _ _ _ _ hr hS (js_L_s1 (fun _ => rfl) (fun _ z => z) hl') hR (jx_le_r _))
  · cases hr
theorem st_fstore {m pc : Nat}  {i : Nat} (hi9 : i < jx_M m) (hd : decode (js_b m) pc = .ok (.fstore i, 2)) : js_St m pc (o_fs i (pc + 2)) := by
  intro p l e R s mth args below meth c Q G H locs ls st h rls rst C K r c0 s0 hC hS hL hR hc hs hRc hRs hRf hRl hm hr kk
  obtain ⟨hx, hb, hml, hown, hts, hlk, hE, hB⟩ := hC
  unfold o_fs at hr
  split at hr
  · rename_i x rr
    obtain ⟨q_x, rst0, rfl, h_x, hR1⟩ := js_RL_c hR
    have h_x : q_x = .float x := h_x
    subst h_x
    have hR := hR1
    exact lv_fstore hx hb hd (js_L_has hL) hi9 rfl (fun rls' hl' => kk _ _ _ _ _ _ _ _ hr hS (js_L_s1 (fun _ => rfl) (fun _ z => z) hl') hR (jx_le_r _))
  · cases hr
theorem st_fstoren {m pc : Nat} {k : Fin 4} {i : Nat} (hi : (k : Nat) = i) (hi9 : i < jx_M m) (hd : decode (js_b m) pc = .ok (.fstore_n k, 1)) : js_St m pc (o_fs i (pc + 1)) := by
  intro p l e R s mth args below meth c Q G H locs ls st h rls rst C K r c0 s0 hC hS hL hR hc hs hRc hRs hRf hRl hm hr kk
  obtain ⟨hx, hb, hml, hown, hts, hlk, hE, hB⟩ := hC
  unfold o_fs at hr
  split at hr
  · rename_i x rr
    obtain ⟨q_x, rst0, rfl, h_x, hR1⟩ := js_RL_c hR
    have h_x : q_x = .float x := h_x
    subst h_x
    have hR := hR1
    exact lv_fstore_n hx hb hd hi (js_L_has hL) hi9 rfl (fun rls' hl' => kk _ _ _ _ _ _ _ _ hr hS (js_L_s1 (fun _ => rfl) (fun _ z => z) hl') hR (jx_le_r _))
  · cases hr
theorem st_lstore {m pc : Nat}  {i : Nat} (hi9 : i + 1 < jx_M m) (hd : decode (js_b m) pc = .ok (.lstore i, 2)) : js_St m pc (o_ls i (pc + 2)) := by
  intro p l e R s mth args below meth c Q G H locs ls st h rls rst C K r c0 s0 hC hS hL hR hc hs hRc hRs hRf hRl hm hr kk
  obtain ⟨hx, hb, hml, hown, hts, hlk, hE, hB⟩ := hC
  unfold o_ls at hr
  split at hr
  · rename_i x rr
    obtain ⟨q_x, rst0, rfl, h_x, hR1⟩ := js_RL_c hR
    have h_x : q_x = .long x := h_x
    subst h_x
    have hR := hR1
    exact lv_lstore hx hb hd (js_L_has hL) hi9 rfl (fun rls' hl' => kk _ _ _ _ _ _ _ _ hr hS (js_L_s2 (fun _ => rfl) (fun _ z => z) hl') hR (jx_le_r _))
  · cases hr
theorem st_lstoren {m pc : Nat} {k : Fin 4} {i : Nat} (hi : (k : Nat) = i) (hi9 : i + 1 < jx_M m) (hd : decode (js_b m) pc = .ok (.lstore_n k, 1)) : js_St m pc (o_ls i (pc + 1)) := by
  intro p l e R s mth args below meth c Q G H locs ls st h rls rst C K r c0 s0 hC hS hL hR hc hs hRc hRs hRf hRl hm hr kk
  obtain ⟨hx, hb, hml, hown, hts, hlk, hE, hB⟩ := hC
  unfold o_ls at hr
  split at hr
  · rename_i x rr
    obtain ⟨q_x, rst0, rfl, h_x, hR1⟩ := js_RL_c hR
    have h_x : q_x = .long x := h_x
    subst h_x
    have hR := hR1
    exact lv_lstore_n hx hb hd hi (js_L_has hL) hi9 rfl (fun rls' hl' => kk _ _ _ _ _ _ _ _ hr hS (js_L_s2 (fun _ => rfl) (fun _ z => z) hl') hR (jx_le_r _))
  · cases hr
theorem st_dstore {m pc : Nat}  {i : Nat} (hi9 : i + 1 < jx_M m) (hd : decode (js_b m) pc = .ok (.dstore i, 2)) : js_St m pc (o_ds i (pc + 2)) := by
  intro p l e R s mth args below meth c Q G H locs ls st h rls rst C K r c0 s0 hC hS hL hR hc hs hRc hRs hRf hRl hm hr kk
  obtain ⟨hx, hb, hml, hown, hts, hlk, hE, hB⟩ := hC
  unfold o_ds at hr
  split at hr
  · rename_i x rr
    obtain ⟨q_x, rst0, rfl, h_x, hR1⟩ := js_RL_c hR
    have h_x : q_x = .double x := h_x
    subst h_x
    have hR := hR1
    exact lv_dstore hx hb hd (js_L_has hL) hi9 rfl (fun rls' hl' => kk _ _ _ _ _ _ _ _ hr hS (js_L_s2 (fun _ => rfl) (fun _ z => z) hl') hR (jx_le_r _))
  · cases hr
theorem st_dstoren {m pc : Nat} {k : Fin 4} {i : Nat} (hi : (k : Nat) = i) (hi9 : i + 1 < jx_M m) (hd : decode (js_b m) pc = .ok (.dstore_n k, 1)) : js_St m pc (o_ds i (pc + 1)) := by
  intro p l e R s mth args below meth c Q G H locs ls st h rls rst C K r c0 s0 hC hS hL hR hc hs hRc hRs hRf hRl hm hr kk
  obtain ⟨hx, hb, hml, hown, hts, hlk, hE, hB⟩ := hC
  unfold o_ds at hr
  split at hr
  · rename_i x rr
    obtain ⟨q_x, rst0, rfl, h_x, hR1⟩ := js_RL_c hR
    have h_x : q_x = .double x := h_x
    subst h_x
    have hR := hR1
    exact lv_dstore_n hx hb hd hi (js_L_has hL) hi9 rfl (fun rls' hl' => kk _ _ _ _ _ _ _ _ hr hS (js_L_s2 (fun _ => rfl) (fun _ z => z) hl') hR (jx_le_r _))
  · cases hr
theorem st_astore {m pc : Nat}  {i : Nat} (hi9 : i < jx_M m) (hd : decode (js_b m) pc = .ok (.astore i, 2)) : js_St m pc (o_as i (pc + 2)) := by
  intro p l e R s mth args below meth c Q G H locs ls st h rls rst C K r c0 s0 hC hS hL hR hc hs hRc hRs hRf hRl hm hr kk
  obtain ⟨hx, hb, hml, hown, hts, hlk, hE, hB⟩ := hC
  unfold o_as at hr
  split at hr
  · rename_i x rr
    obtain ⟨q_x, rst0, rfl, h_x, hR1⟩ := js_RL_c hR
    have h_x : q_x = .ref (js_ad G x) := h_x
    subst h_x
    have hR := hR1
    exact lv_astore hx hb hd (js_L_has hL) hi9 rfl (fun rls' hl' => kk _ _ _ _ _ _ _ _ hr hS (js_L_s1 (fun _ => rfl) (fun _ z => z) hl') hR (jx_le_r _))
  · rename_i rr
    obtain ⟨q_x, rst1, rfl, h_x, hR1⟩ := js_RL_c hR
    have hR := hR1
    have h_x : q_x = .null := h_x
    subst h_x
    exact lv_astoreN hx hb hd (js_L_has hL) hi9 rfl (fun rls' hl' => kk _ _ _ _ _ _ _ _ hr hS (js_L_s1 (fun _ => rfl) (fun _ z => z) hl') hR1 (jx_le_r _))
  · cases hr
theorem st_astoren {m pc : Nat} {k : Fin 4} {i : Nat} (hi : (k : Nat) = i) (hi9 : i < jx_M m) (hd : decode (js_b m) pc = .ok (.astore_n k, 1)) : js_St m pc (o_as i (pc + 1)) := by
  intro p l e R s mth args below meth c Q G H locs ls st h rls rst C K r c0 s0 hC hS hL hR hc hs hRc hRs hRf hRl hm hr kk
  obtain ⟨hx, hb, hml, hown, hts, hlk, hE, hB⟩ := hC
  unfold o_as at hr
  split at hr
  · rename_i x rr
    obtain ⟨q_x, rst0, rfl, h_x, hR1⟩ := js_RL_c hR
    have h_x : q_x = .ref (js_ad G x) := h_x
    subst h_x
    have hR := hR1
    exact lv_astore_n hx hb hd hi (js_L_has hL) hi9 rfl (fun rls' hl' => kk _ _ _ _ _ _ _ _ hr hS (js_L_s1 (fun _ => rfl) (fun _ z => z) hl') hR (jx_le_r _))
  · rename_i rr
    obtain ⟨q_x, rst1, rfl, h_x, hR1⟩ := js_RL_c hR
    have hR := hR1
    have h_x : q_x = .null := h_x
    subst h_x
    exact lv_astore_nN hx hb hd hi (js_L_has hL) hi9 rfl (fun rls' hl' => kk _ _ _ _ _ _ _ _ hr hS (js_L_s1 (fun _ => rfl) (fun _ z => z) hl') hR1 (jx_le_r _))
  · cases hr
theorem st_iinc {m pc : Nat} {i : Nat} {n : Int} {v : Int32} (hv : Int32.ofInt n = v) (hi9 : i < jx_M m) (hd : decode (js_b m) pc = .ok (.iinc i n, 3)) : js_St m pc (o_inc i v (pc + 3)) := by
  intro p l e R s mth args below meth c Q G H locs ls st h rls rst C K r c0 s0 hC hS hL hR hc hs hRc hRs hRf hRl hm hr kk
  obtain ⟨hx, hb, hml, hown, hts, hlk, hE, hB⟩ := hC
  unfold o_inc at hr
  split at hr
  · rename_i x hx1
    have hh := js_L_has hL
    have hh2 : lv_has rls (jx_M m) ((i, .int x) :: js_kn G ls) := ⟨hh.1, hh.2.1, fun q hq => by
      rcases List.mem_cons.mp hq with rfl | hq
      · exact hL.2.2 _ _ hx1 (js_nj_i _)
      · exact hh.2.2 q hq⟩
    exact lv_iinc (k := 0) hx hb hd hh2 rfl rfl hi9 rfl (fun rls' hl' => kk _ _ _ _ _ _ _ _ hr hS (js_L_s1 (fun _ => by rw [hv]; rfl) (fun _ z => List.mem_cons_of_mem _ z) hl') hR (jx_le_r _))
  · cases hr
theorem jx_sw_tab {x : Int32} {d : Nat} {f : Nat → jx_R} : ∀ (ts : List (Int32 × Nat)), (∃ t, (x, t) ∈ ts ∧ jx_sw x d ts f = f t) ∨ ((∀ q ∈ ts, q.1 ≠ x) ∧ jx_sw x d ts f = f d)
  | [] => Or.inr ⟨fun _ h => (nomatch h), rfl⟩
  | (v, t) :: ts => by
    by_cases h : x = v
    · subst h
      exact Or.inl ⟨t, List.mem_cons_self, by unfold jx_sw; rw [if_pos rfl]⟩
    · rcases jx_sw_tab (x := x) (d := d) (f := f) ts with ⟨t', h1, h2⟩ | ⟨h1, h2⟩
      · exact Or.inl ⟨t', List.mem_cons_of_mem _ h1, by unfold jx_sw; rw [if_neg h]; exact h2⟩
      · exact Or.inr ⟨fun q hq => by rcases List.mem_cons.mp hq with rfl | hq; exact fun z => h z.symm; exact h1 q hq, by unfold jx_sw; rw [if_neg h]; exact h2⟩
theorem st_tsw {m pc : Nat} {dflt lo hi : Int} {offs : Array Int} {len d : Nat} {ts : List (Int32 × Nat)} (ht : (pc : Int) + dflt = (d : Int)) (hin : ∀ q ∈ ts, ¬ q.1.toInt < lo ∧ ¬ hi < q.1.toInt ∧ (offs[(q.1.toInt - lo).toNat]?).map (fun off => (pc : Int) + off) = some (q.2 : Int)) (hout : ∀ n : Nat, n < (hi - lo + 1).toNat → ∃ q ∈ ts, q.1.toInt = lo + n) (hd : decode (js_b m) pc = .ok (.tableswitch dflt lo hi offs, len)) : js_St m pc (o_sw d ts) := by
  intro p l e R s mth args below meth c Q G H locs ls st h rls rst C K r c0 s0 hC hS hL hR hc hs hRc hRs hRf hRl hm hr kk
  obtain ⟨hx, hb, hml, hown, hts, hlk, hE, hB⟩ := hC
  unfold o_sw at hr
  split at hr
  · rename_i x rr
    obtain ⟨q_x, rst0, rfl, h_x, hR1⟩ := js_RL_c hR
    have h_x : q_x = .int x := h_x
    subst h_x
    have hR := hR1
    rcases jx_sw_tab (x := x) (d := d) (f := fun t => K t ls rr h) ts with ⟨t, h1, h2⟩ | ⟨h1, h2⟩
    · rw [h2] at hr
      obtain ⟨e1, e2, e0⟩ := hin _ h1
      obtain ⟨off, e3, e4⟩ := Option.map_eq_some_iff.mp e0
      exact lv_tableIn hx hb hd e1 e2 e3 e4 (kk _ _ _ _ _ _ _ _ hr hS hL hR (jx_le_r _))
    · rw [h2] at hr
      refine lv_tableOut hx hb hd ?_ ht (kk _ _ _ _ _ _ _ _ hr hS hL hR (jx_le_r _))
      by_cases z1 : x.toInt < lo
      · exact Or.inl z1
      by_cases z2 : hi < x.toInt
      · exact Or.inr z2
      exfalso
      obtain ⟨q, hq, e⟩ := hout (x.toInt - lo).toNat (by omega)
      exact h1 q hq (Int32.toInt_inj.mp (by omega))
  · cases hr
theorem st_bad {m pc : Nat} : js_St m pc o_bad := by
  intro p l e R s mth args below meth c Q G H locs ls st h rls rst C K r c0 s0 hC hS hL hR hc hs hRc hRs hRf hRl hm hr kk
  cases hr
end JS
