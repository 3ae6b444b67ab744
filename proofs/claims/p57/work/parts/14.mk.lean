section JS
theorem js_S_add {G : js_G} {s : State} {H H1 : Heap} {locs : List Loc} {h : jx_H} {o : jx_Ob} {n : Nat} (hS : js_S G s H locs h) (hn : h.2.1 = h.2.2.1 + jx_nc) (z1 : H1.size = H.size + 1) (o1 : ∀ q, q < H.size → H1[q]? = H[q]?) (hX : js_X G H1 h.2.1 o) : js_S G s H1 locs (jx_add h o n) := by
  obtain ⟨⟨g1, g2, g3, g4, g5, g6⟩, hv⟩ := hS
  have hsz := g5 hn
  refine ⟨⟨fun q o2 hq ho => ?_, fun q hq => ?_, Nat.le_succ_of_le g3, ?_, fun _ => ?_, by rw [z1]; exact Nat.le_succ_of_le g6⟩, Nat.le_trans hv.1 (by omega), fun q h1 h2 => (o1 q (Nat.lt_of_lt_of_le h1 hv.1)).trans (hv.2.1 q h1 h2), hv.2.2⟩
  · have e0 : (jx_add h o n).1 q = (bif q == h.2.1 then some o else h.1 q) := rfl
    by_cases hqa : q = h.2.1
    · rw [e0, hqa, beq_self_eq_true] at ho
      cases ho
      exact ⟨by rw [hqa]; exact hX, by rw [hqa]; exact Nat.lt_succ_self _⟩
    · rw [e0, beq_eq_false_iff_ne.mpr hqa] at ho
      obtain ⟨k1, k2⟩ := g1 q o2 hq ho
      refine ⟨js_X_kept k1 (o1 _ ?_), Nat.lt_succ_of_lt k2⟩
      unfold js_ad
      rw [if_neg (Nat.not_lt.mpr hq)]
      omega
  · have e0 : (jx_add h o n).1 q = (bif q == h.2.1 then some o else h.1 q) := rfl
    rw [e0, beq_eq_false_iff_ne.mpr (by omega)]
    exact g2 q hq
  · show h.2.1 + 1 ≤ h.2.2.1 + 1 + jx_nc
    omega
  · show H1.size = G.2.2.2.2.1 + (h.2.2.1 + 1)
    omega
theorem js_ad_new {G : js_G} {s : State} {H : Heap} {locs : List Loc} {h : jx_H} (hS : js_S G s H locs h) (hn : h.2.1 = h.2.2.1 + jx_nc) : js_ad G h.2.1 = H.size := by
  have g5 := hS.1.2.2.2.2.1 hn
  have g3 := hS.1.2.2.1
  unfold js_ad
  rw [if_neg (Nat.not_lt.mpr g3)]
  omega
theorem st_new {m pc : Nat} {t idx : Nat} {C : String} {T : u_T} {N : Nat} {ty0 : Nat → FieldType} {fs : List Value} (hcl : js_cls t C T N ty0) (hlen : fs.length = N) (hfs : ∀ j, j < N → defaultValue (ty0 j) = vp_V fs j) (hfm : ∀ G : js_G, fs.map (js_v G) = fs) (hw1 : Jvm.Cond.classLink (js_y m).cls idx C ∈ js_ws) (hw2 : Jvm.Cond.instantiable C N ∈ js_ws) (hw3 : Jvm.Cond.initialized C ∈ js_ws) (hd : decode (js_b m) pc = .ok (.new idx, 3)) : js_St m pc (o_new t fs (pc + 3)) := by
  intro p l e R s mth args below meth c Q G H locs ls st h rls rst C K r c0 s0 hC hS hL hR hc hs hRc hRs hRf hRl hm hr kk
  obtain ⟨hx, hb, hml, hown, hts, hlk, hE, hB⟩ := hC
  unfold o_new at hr
  split at hr
  · rename_i hn
    obtain ⟨hc9, hin, hty, hnm⟩ := hcl
    have hle := hm _ _ _ _ hr
    have l1 : h.2.2.1 + 1 ≤ r.2.2.2.1 := hle.2.1
    have l2 : h.2.2.2 + fs.length ≤ r.2.2.2.2 := hle.2.2
    have hKn := hE.2.1.1 t _ hc9
    refine W.newcK hx hb hown (hts _ hw1) (hts _ hw2) (hts _ hw3) rfl hd (by omega) (by omega) hKn.2.1 rfl fun H1 kC hkC e1 z1 o1 => ?_
    have ead := js_ad_new hS hn
    have hX : js_X G H1 h.2.1 (t, fs) := by
      refine Or.inl ⟨_, hc9, hlen, ?_⟩
      rw [hfm, ead]
      exact (u_born ty0 hts hin hKn hkC e1 hty).to hfs
    have hk := kk (pc + 3) ls (.ref h.2.1 :: st) (jx_add h (t, fs) fs.length) H1 locs rls (.ref (js_ad G h.2.1) :: rst) hr (js_S_add hS hn z1 o1 hX) hL ⟨rfl, hR⟩ ⟨Nat.le_succ _, Nat.le_succ _, Nat.le_add_right _ _⟩
    rw [ead] at hk
    have ec : (jx_add h (t, fs) fs.length).2.2.1 - c0 = h.2.2.1 - c0 + 1 := by show h.2.2.1 + 1 - c0 = _; omega
    have es : (jx_add h (t, fs) fs.length).2.2.2 - s0 = h.2.2.2 - s0 + N := by show h.2.2.2 + fs.length - s0 = _; omega
    rw [ec, es] at hk
    exact hk
  · cases hr
theorem js_cl4 {n : Int32} (h0 : 0 ≤ n) (h1 : n ≤ 4096) : ¬ n < 0 ∧ n.toNatClampNeg ≤ 4096 := by
  obtain ⟨j, hj, rfl⟩ := nI_of2 (M := 4096) (n := 4096) (by decide) (Int32.not_lt.mpr h0) h1
  exact ⟨Int32.not_lt.mpr h0, by rw [nI_clamp (by omega)]; exact hj⟩
theorem st_na {m pc : Nat} {t : Nat} {v : Value} {atype : ArrayType} (ht9 : t ∈ js_at) (hta : newarray.typeOf atype = js_ty t) (hob : ∀ D : String, js_ty t ≠ .object D) (hcb : componentBytes (js_ty t) ≤ 8) (hvd : ∀ G : js_G, js_v G v = defaultValue (js_ty t)) (hw : Jvm.Cond.arrayClass (js_ty t) ∈ js_ws) (hd : decode (js_b m) pc = .ok (.newarray atype, 2)) : js_St m pc (o_na t v (pc + 2)) := by
  intro p l e R s mth args below meth c Q G H locs ls st h rls rst C K r c0 s0 hC hS hL hR hc hs hRc hRs hRf hRl hm hr kk
  obtain ⟨hx, hb, hml, hown, hts, hlk, hE, hB⟩ := hC
  unfold o_na at hr
  split at hr
  · rename_i n rr
    obtain ⟨q_n, rst0, rfl, h_n, hR1⟩ := js_RL_c hR
    have h_n : q_n = .int n := h_n
    subst h_n
    have hR := hR1
    split at hr
    · rename_i hn
      obtain ⟨h0, h4, hn⟩ := hn
      obtain ⟨hn0, hn4⟩ := js_cl4 h0 h4
      have hle := hm _ _ _ _ hr
      have l1 : h.2.2.1 + 1 ≤ r.2.2.2.1 := hle.2.1
      have l2 : h.2.2.2 + n.toNatClampNeg ≤ r.2.2.2.2 := hle.2.2
      have ead := js_ad_new hS hn
      have hw9 := hts _ hw
      rw [← hta] at hw9 hcb
      have hb9 : n.toNatClampNeg * componentBytes (newarray.typeOf atype) ≤ 536870912 := Nat.le_trans (Nat.mul_le_mul hn4 hcb) (Nat.le_of_ble_eq_true rfl)
      refine W.newa hx hb hw9 rfl hd rfl hn0 hb9 (by omega) (by omega) fun cA kA comp f1 f2 f3 => ?_
      have hcA : cA = G.2.2.1 t := by
        have hra := (hE.2.2.1 t ht9).2
        rw [hta] at f1
        generalize hty9 : js_ty t = ty9 at hra f1 hob
        cases ty9 with
        | object D => exact absurd rfl (hob D)
        | _ => exact Option.some.inj (f1.symm.trans hra)
      rw [hta]
      have hvd := hvd G
      have hX : js_X G (H.push ({ cls := cA, slots := Array.replicate n.toNatClampNeg (defaultValue (js_ty t)), vm := .none } : Cell)) h.2.1 (t, List.replicate n.toNatClampNeg v) := by
        refine Or.inr ⟨ht9, ?_, fun z u hu => by
          have hu : u ∈ List.replicate n.toNatClampNeg v := hu
          have z9 : t = 104 := z
          have hv0 : js_v G v = .int 0 := by rw [hvd, z9]; rfl
          rw [List.eq_of_mem_replicate hu]
          cases v <;> first | (cases hv0; done) | (cases hv0; rfl)⟩
        rw [ead, Array.getElem?_push_size, hcA, List.map_replicate, hvd, List.toArray_replicate]
      have hk := kk (pc + 2) ls (.ref h.2.1 :: rr) (jx_add h (t, List.replicate n.toNatClampNeg v) n.toNatClampNeg) (H.push ({ cls := cA, slots := Array.replicate n.toNatClampNeg (defaultValue (js_ty t)), vm := .none } : Cell)) locs rls (.ref (js_ad G h.2.1) :: rst0) hr (js_S_add hS hn (Array.size_push _) (fun q hq => by rw [Array.getElem?_push, if_neg (Nat.ne_of_lt hq)]) hX) hL ⟨rfl, hR⟩ ⟨Nat.le_succ _, Nat.le_succ _, Nat.le_add_right _ _⟩
      rw [ead] at hk
      have ec : (jx_add h (t, List.replicate n.toNatClampNeg v) n.toNatClampNeg).2.2.1 - c0 = h.2.2.1 - c0 + 1 := by show h.2.2.1 + 1 - c0 = _; omega
      have es : (jx_add h (t, List.replicate n.toNatClampNeg v) n.toNatClampNeg).2.2.2 - s0 = h.2.2.2 - s0 + n.toNatClampNeg := by show h.2.2.2 + n.toNatClampNeg - s0 = _; omega
      rw [ec, es] at hk
      exact hk
    · cases hr
  · cases hr
theorem st_ana {m pc : Nat} {t idx : Nat} {C : String} {v : Value} (ht9 : t ∈ js_at) (hta : js_ty t = .object C) (hv9 : v = .null) (hw1 : Jvm.Cond.classLink (js_y m).cls idx C ∈ js_ws) (hw : Jvm.Cond.arrayOver (.object C) ∈ lw_tbl) (hd : decode (js_b m) pc = .ok (.anewarray idx, 3)) : js_St m pc (o_na t v (pc + 3)) := by
  intro p l e R s mth args below meth c Q G H locs ls st h rls rst C K r c0 s0 hC hS hL hR hc hs hRc hRs hRf hRl hm hr kk
  obtain ⟨hx, hb, hml, hown, hts, hlk, hE, hB⟩ := hC
  unfold o_na at hr
  split at hr
  · rename_i n rr
    obtain ⟨q_n, rst0, rfl, h_n, hR1⟩ := js_RL_c hR
    have h_n : q_n = .int n := h_n
    subst h_n
    have hR := hR1
    split at hr
    · rename_i hn
      obtain ⟨h0, h4, hn⟩ := hn
      obtain ⟨hn0, hn4⟩ := js_cl4 h0 h4
      have hle := hm _ _ _ _ hr
      have l1 : h.2.2.1 + 1 ≤ r.2.2.2.1 := hle.2.1
      have l2 : h.2.2.2 + n.toNatClampNeg ≤ r.2.2.2.2 := hle.2.2
      have ead := js_ad_new hS hn
      have hb9 : n.toNatClampNeg * 4 ≤ 536870912 := Nat.le_trans (Nat.mul_le_mul hn4 (Nat.le_refl 4)) (Nat.le_of_ble_eq_true rfl)
      refine W.anew hx hb hown (hts _ hw1) (va_AO.use (hE.1 _ hw rfl)) rfl hd rfl hn0 hb9 (by omega) (by omega) fun cA kA comp f1 f2 f3 f4 => ?_
      have hcA : cA = G.2.2.1 t := by
        have hra := (hE.2.2.1 t ht9).2
        rw [hta] at hra
        obtain ⟨_, _, _, _, _, k4⟩ := hra
        exact Option.some.inj (f1.symm.trans k4)
      have hvd : js_v G v = .null := by rw [hv9]; rfl
      have hX : js_X G (H.push ({ cls := cA, slots := Array.replicate n.toNatClampNeg (.null), vm := .none } : Cell)) h.2.1 (t, List.replicate n.toNatClampNeg v) := by
        refine Or.inr ⟨ht9, ?_, fun z => by have z9 : t = 104 := z; rw [z9] at hta; cases hta⟩
        rw [ead, Array.getElem?_push_size, hcA, List.map_replicate, hvd, List.toArray_replicate]
      have hk := kk (pc + 3) ls (.ref h.2.1 :: rr) (jx_add h (t, List.replicate n.toNatClampNeg v) n.toNatClampNeg) (H.push ({ cls := cA, slots := Array.replicate n.toNatClampNeg (.null), vm := .none } : Cell)) locs rls (.ref (js_ad G h.2.1) :: rst0) hr (js_S_add hS hn (Array.size_push _) (fun q hq => by rw [Array.getElem?_push, if_neg (Nat.ne_of_lt hq)]) hX) hL ⟨rfl, hR⟩ ⟨Nat.le_succ _, Nat.le_succ _, Nat.le_add_right _ _⟩
      rw [ead] at hk
      have ec : (jx_add h (t, List.replicate n.toNatClampNeg v) n.toNatClampNeg).2.2.1 - c0 = h.2.2.1 - c0 + 1 := by show h.2.2.1 + 1 - c0 = _; omega
      have es : (jx_add h (t, List.replicate n.toNatClampNeg v) n.toNatClampNeg).2.2.2 - s0 = h.2.2.2 - s0 + n.toNatClampNeg := by show h.2.2.2 + n.toNatClampNeg - s0 = _; omega
      rw [ec, es] at hk
      exact hk
    · cases hr
  · cases hr
theorem st_obj {m pc : Nat} {idx : Nat} (hw1 : Jvm.Cond.methodLink (js_y m).cls idx Lib.objectInit ∈ js_ws) (hw2 : Jvm.Cond.instanceMethod Lib.objectInit ∈ js_ws) (hw3 : Jvm.Cond.code Lib.objectInit ⟨#[0xb1]⟩ 1 none ∈ js_ws) (hd : decode (js_b m) pc = .ok (.invokespecial idx, 3)) : js_St m pc (o_obj (pc + 3)) := by
  intro p l e R s mth args below meth c Q G H locs ls st h rls rst C K r c0 s0 hC hS hL hR hc hs hRc hRs hRf hRl hm hr kk
  obtain ⟨hx, hb, hml, hown, hts, hlk, hE, hB⟩ := hC
  unfold o_obj at hr
  split at hr
  · rename_i a rr
    obtain ⟨q_a, rst0, rfl, h_a, hR1⟩ := js_RL_c hR
    have h_a : q_a = .ref (js_ad G a) := h_a
    subst h_a
    have hR := hR1
    obtain ⟨hk9, hr⟩ := jx_ck_i hr
    have hs9 := js_cat_sum hR
    exact W.objInit hx hb hown (hts _ hw1) (hts _ hw2) (hts _ hw3) rfl (by show rls.size = _; rw [hL.1, hml]) rfl hd hRf (by show 2 * 0 + _ + 12 ≤ _; omega) (kk _ _ _ _ _ _ _ _ hr hS hL hR (jx_le_r _))
  · cases hr
theorem st_raw {m pc : Nat} {idx : Nat} (hw1 : Jvm.Cond.methodLink (js_y m).cls idx ⟨"java/lang/Float", "floatToRawIntBits", "(F)I"⟩ ∈ js_ws) (hw2 : Jvm.Cond.native ⟨"java/lang/Float", "floatToRawIntBits", "(F)I"⟩ ∈ js_ws) (hw3 : Jvm.Cond.static ⟨"java/lang/Float", "floatToRawIntBits", "(F)I"⟩ ∈ js_ws) (hw4 : Jvm.Cond.initialized "java/lang/Float" ∈ js_ws) (hd : decode (js_b m) pc = .ok (.invokestatic idx, 3)) : js_St m pc (o_raw (pc + 3)) := by
  intro p l e R s mth args below meth c Q G H locs ls st h rls rst C K r c0 s0 hC hS hL hR hc hs hRc hRs hRf hRl hm hr kk
  obtain ⟨hx, hb, hml, hown, hts, hlk, hE, hB⟩ := hC
  unfold o_raw at hr
  split at hr
  · rename_i x rr
    obtain ⟨q_x, rst0, rfl, h_x, hR1⟩ := js_RL_c hR
    have h_x : q_x = .float x := h_x
    subst h_x
    have hR := hR1
    obtain ⟨hk9, hr⟩ := jx_ck_i hr
    have hs9 := js_cat_sum hR
    exact vn_f2i hx hb (by rw [hL.1, hml]) hown (hts _ hw1) (hts _ hw2) (hts _ hw3) (hts _ hw4) hRf (by omega) hd (kk _ _ _ _ _ _ _ _ hr hS hL ⟨rfl, hR⟩ (jx_le_r _))
  · cases hr
def js_iv (us : List Value) (j : Nat) : Int32 := match us.getD j .null with | .int x => x | _ => 0
theorem js_row {G : js_G} {us : List Value} {cA : ClassId} (h : us.all jx_ii = true) : ({ cls := cA, slots := (us.map (js_v G)).toArray, vm := .none } : Cell) = vp_cell cA (us.length, .inl (js_iv us)) := by
  rw [vp_cell_i]
  unfold arrV
  congr 1
  apply Array.ext_getElem?
  intro j
  rw [List.getElem?_toArray, List.getElem?_map]
  by_cases hj : j < us.length
  · rw [List.getElem?_eq_getElem hj]
    have hi := List.all_eq_true.mp h _ (List.getElem_mem hj)
    have e2 : (Array.ofFn (n := us.length) fun k => Value.int (js_iv us k.val))[j]? = some (Value.int (js_iv us j)) := by
      rw [Array.getElem?_eq_getElem (by simpa using hj)]
      simp
    rw [e2]
    have e3 : us.getD j .null = us[j] := by rw [List.getD_eq_getElem?_getD, List.getElem?_eq_getElem hj]; rfl
    unfold js_iv
    rw [e3]
    generalize us[j] = v at hi ⊢
    cases v <;> first | rfl | cases hi
  · rw [List.getElem?_eq_none (by omega)]
    have e2 : (Array.ofFn (n := us.length) fun k => Value.int (js_iv us k.val))[j]? = none := by
      rw [Array.getElem?_eq_none_iff]
      simpa using Nat.not_lt.mp hj
    rw [e2]; rfl
theorem js_cpl {us vs : List Value} {i j n : Nat} (hu : us.all jx_ii = true) (hv : vs.all jx_ii = true) (h1 : i + n ≤ us.length) (h2 : j + n ≤ vs.length) : (vs.take j ++ ((us.drop i).take n) ++ vs.drop (j + n)).length = vs.length ∧ (vs.take j ++ ((us.drop i).take n) ++ vs.drop (j + n)).all jx_ii = true ∧ ∀ k, k < vs.length → js_iv (vs.take j ++ ((us.drop i).take n) ++ vs.drop (j + n)) k = va_cpy (js_iv us) (js_iv vs) i j n k := by
  refine ⟨?_, ?_, fun k hk => ?_⟩
  · simp only [List.length_append, List.length_take, List.length_drop]
    omega
  · rw [List.all_eq_true] at hu hv ⊢
    intro x hx
    rcases List.mem_append.mp hx with hx | hx
    · rcases List.mem_append.mp hx with hx | hx
      · exact hv x (List.mem_of_mem_take hx)
      · exact hu x (List.mem_of_mem_drop (List.mem_of_mem_take hx))
    · exact hv x (List.mem_of_mem_drop hx)
  · have hl1 : (vs.take j).length = j := by rw [List.length_take]; omega
    have hl2 : ((us.drop i).take n).length = n := by rw [List.length_take, List.length_drop]; omega
    unfold va_cpy
    have key : (vs.take j ++ ((us.drop i).take n) ++ vs.drop (j + n)).getD k .null = if j ≤ k ∧ k < j + n then us.getD (i + (k - j)) .null else vs.getD k .null := by
      simp only [List.getD_eq_getElem?_getD]
      by_cases c1 : k < j
      · rw [if_neg (by omega), List.getElem?_append_left (by rw [List.length_append]; omega), List.getElem?_append_left (by omega), List.getElem?_take_of_lt c1]
      · by_cases c2 : k < j + n
        · rw [if_pos ⟨by omega, c2⟩, List.getElem?_append_left (by rw [List.length_append]; omega), List.getElem?_append_right (by omega), hl1, List.getElem?_take_of_lt (by omega), List.getElem?_drop]
        · rw [if_neg (by omega), List.getElem?_append_right (by rw [List.length_append]; omega), List.length_append, hl1, hl2, List.getElem?_drop]
          congr 2
          omega
    unfold js_iv
    rw [key]
    by_cases c : j ≤ k ∧ k < j + n
    · rw [if_pos c, if_pos c]
    · rw [if_neg c, if_neg c]
theorem st_cp {m pc : Nat} {idx : Nat} (hw1 : Jvm.Cond.methodLink (js_y m).cls idx arraycopyName ∈ js_ws) (hw2 : Jvm.Cond.native arraycopyName ∈ js_ws) (hw3 : Jvm.Cond.static arraycopyName ∈ js_ws) (hw4 : Jvm.Cond.initialized "java/lang/System" ∈ js_ws) (hd : decode (js_b m) pc = .ok (.invokestatic idx, 3)) : js_St m pc (o_cp 100 (pc + 3)) := by
  intro p l e R s mth args below meth c Q G H locs ls st h rls rst C K r c0 s0 hC hS hL hR hc hs hRc hRs hRf hRl hm hr kk
  obtain ⟨hx, hb, hml, hown, hts, hlk, hE, hB⟩ := hC
  unfold o_cp at hr
  split at hr
  · rename_i n j b i a rr
    obtain ⟨q_n, rst0, rfl, h_n, hR1⟩ := js_RL_c hR
    have h_n : q_n = .int n := h_n
    subst h_n
    obtain ⟨q_j, rst1, rfl, h_j, hR2⟩ := js_RL_c hR1
    have h_j : q_j = .int j := h_j
    subst h_j
    obtain ⟨q_b, rst2, rfl, h_b, hR3⟩ := js_RL_c hR2
    have h_b : q_b = .ref (js_ad G b) := h_b
    subst h_b
    obtain ⟨q_i, rst3, rfl, h_i, hR4⟩ := js_RL_c hR3
    have h_i : q_i = .int i := h_i
    subst h_i
    obtain ⟨q_a, rst4, rfl, h_a, hR5⟩ := js_RL_c hR4
    have h_a : q_a = .ref (js_ad G a) := h_a
    subst h_a
    have hR := hR5
    obtain ⟨hk9, hq⟩ := jx_ck_i hr
    have hs9 := js_cat_sum hR
    obtain ⟨us, vs, h1, h2, ⟨i0, j0, n0, hb9, l1, l2, au, av⟩, h3⟩ := jx_cp_i hq
    obtain ⟨ca, a1, a2, a3, a4, a5, a6, a7⟩ := js_ar hE hS (Nat.le_of_ble_eq_true rfl) h1
    obtain ⟨cb, b1, b2, b3, b4, b5, b6, b7⟩ := js_ar hE hS (Nat.le_of_ble_eq_true rfl) h2
    obtain ⟨ht9, rfl⟩ := b7 hb9
    have nn : ∀ z : Int32, 0 ≤ z → z.toInt = (z.toNatClampNeg : Int) := by
      intro z hz
      have hz0 : (0 : Int) ≤ z.toInt := by simpa using Int32.le_iff_toInt_le.mp hz
      show z.toInt = ((z.toInt.toNat : Nat) : Int)
      omega
    obtain ⟨av1, av2, av3⟩ := js_cpl au av l1 l2
    rw [js_row av] at b1 b5
    obtain ⟨ns0, k0, hk0, cm0, hkk0⟩ := a2
    obtain ⟨-, k1, hk1, cm1, hkk1⟩ := b2
    intro T hT X
    have hsa : us.length = ca.slots.size ∨ True := Or.inr trivial
    obtain ⟨vm', X', step⟩ := X.arraycopy hx hown (hts _ hw1) (hts _ hw2) (hts _ hw3) (hts _ hw4) (src := js_ad G a) (dst := js_ad G b) (cs := ca) (cd := vp_cell (G.2.2.1 100) (vs.length, .inl (js_iv vs))) (srcPos := i) (destPos := j) (n := n) (by rw [hT]; exact a1) (by rw [hT]; exact b1)
      ns0 (fun _ z => by cases z) a3 (fun z => by cases z) hk0 hk1 hkk0 hkk1 (by simp [js_ty, refKind]) (Int32.not_lt.mpr i0) (Int32.not_lt.mpr j0) (Int32.not_lt.mpr n0)
      (by rw [nn i i0, nn n n0]; omega)
      (by rw [nn j j0, nn n n0]; show ¬ _ > ((arrV (G.2.2.1 100) vs.length (fun k => .int (js_iv vs k))).slots.size : Int); rw [arrV_size]; omega)
      (fun vm₁ _ z hz => by
        have hz1 : i.toNatClampNeg + z < us.length := by omega
        have e : ca.slots.getD (i.toNatClampNeg + z) .null = .int (js_iv us (i.toNatClampNeg + z)) := by
          rw [Array.getD_eq_getD_getElem?, a6 _ _ (List.getElem?_eq_getElem hz1)]
          have hi := List.all_eq_true.mp au _ (List.getElem_mem hz1)
          have e3 : us.getD (i.toNatClampNeg + z) .null = us[i.toNatClampNeg + z] := by rw [List.getD_eq_getElem?_getD, List.getElem?_eq_getElem hz1]; rfl
          unfold js_iv
          rw [e3]
          generalize us[i.toNatClampNeg + z] = v at hi ⊢
          cases v <;> first | rfl | cases hi
        refine ⟨?_, ?_⟩
        · rw [e]; rfl
        · rw [e]; exact trivial)
      (g := F0 mth pc rls (.int n :: .int j :: .ref (js_ad G b) :: .int i :: .ref (js_ad G a) :: rst4)) rfl (by show rls.size = _; rw [hL.1, hml]) (rest := rst4) rfl (by rw [hb]; exact hd) hRf (by show 2 * 0 + _ + _ ≤ _; have hw : nativeFrameWords "java/lang/System" "arraycopy" 5 ≤ 20 := (by decide); omega)
    have e1 : copied ca (vp_cell (G.2.2.1 100) (vs.length, .inl (js_iv vs))) i j n = vp_cell (G.2.2.1 100) (vs.length, .inl (va_cpy (js_iv us) (js_iv vs) i.toNatClampNeg j.toNatClampNeg n.toNatClampNeg)) := va_copiedX (fun z => .int z) ca (G.2.2.1 100) (js_iv us) (js_iv vs) (n0 := us.length) (fun z hz => by
        rw [a6 _ _ (List.getElem?_eq_getElem hz)]
        have hi := List.all_eq_true.mp au _ (List.getElem_mem hz)
        have e3 : us.getD z .null = us[z] := by rw [List.getD_eq_getElem?_getD, List.getElem?_eq_getElem hz]; rfl
        unfold js_iv
        rw [e3]
        generalize us[z] = v at hi ⊢
        cases v <;> first | rfl | cases hi) l1
    rw [e1] at X' step
    generalize hcell : vp_cell (G.2.2.1 100) (vs.length, .inl (va_cpy (js_iv us) (js_iv vs) i.toNatClampNeg j.toNatClampNeg n.toNatClampNeg)) = nc9 at X' step
    have hl : js_ad G b < H.size := (Array.getElem?_eq_some_iff.mp b1).1
    have hheap : ((T.setVm vm').setCell (js_ad G b) nc9).heap = H.setIfInBounds (js_ad G b) nc9 := by rw [← hT]; rfl
    have oq : ∀ q : Nat, q ≠ js_ad G b → (H.setIfInBounds (js_ad G b) nc9)[q]? = H[q]? := fun q hq => by simp [Array.getElem?_setIfInBounds, Ne.symm hq]
    have hX : js_X G (H.setIfInBounds (js_ad G b) nc9) b (100, vs.take j.toNatClampNeg ++ ((us.drop i.toNatClampNeg).take n.toNatClampNeg) ++ vs.drop (j.toNatClampNeg + n.toNatClampNeg)) := by
      refine Or.inr ⟨ht9, ?_, fun z => absurd (show 100 = 104 from z) (by decide)⟩
      rw [js_row av2, av1]
      rw [show (H.setIfInBounds (js_ad G b) nc9)[js_ad G b]? = some nc9 by simp [Array.getElem?_setIfInBounds, hl], ← hcell]
      congr 1
      rw [vp_cell_i, vp_cell_i]
      unfold arrV
      congr 2
      funext z
      exact congrArg Value.int (av3 _ z.isLt).symm
    have hu := js_S_upd (i := 0) hS hb9 h2 (by simp) oq hX
    obtain ⟨t, z1, z2⟩ := kk _ _ _ (jx_set h b _) _ _ _ _ h3 ⟨hu.1, hu.2.1, hu.2.2.1, fun q hq => by
      rcases List.mem_append.mp hq with z | z
      · exact hS.2.2.2 q z
      · obtain ⟨y, -, hy⟩ := List.mem_map.mp z
        rw [← hy]
        exact js_A_ad hb9⟩ hL hR (jx_le_r h) _ hheap X'
    exact ⟨t, step t z1, z2⟩
  · cases hr
theorem st_cpb {m pc : Nat} {idx : Nat} (hw1 : Jvm.Cond.methodLink (js_y m).cls idx arraycopyName ∈ js_ws) (hw2 : Jvm.Cond.native arraycopyName ∈ js_ws) (hw3 : Jvm.Cond.static arraycopyName ∈ js_ws) (hw4 : Jvm.Cond.initialized "java/lang/System" ∈ js_ws) (hd : decode (js_b m) pc = .ok (.invokestatic idx, 3)) : js_St m pc (o_cp 104 (pc + 3)) := by
  intro p l e R s mth args below meth c Q G H locs ls st h rls rst C K r c0 s0 hC hS hL hR hc hs hRc hRs hRf hRl hm hr kk
  obtain ⟨hx, hb, hml, hown, hts, hlk, hE, hB⟩ := hC
  unfold o_cp at hr
  split at hr
  · rename_i n j b i a rr
    obtain ⟨q_n, rst0, rfl, h_n, hR1⟩ := js_RL_c hR
    have h_n : q_n = .int n := h_n
    subst h_n
    obtain ⟨q_j, rst1, rfl, h_j, hR2⟩ := js_RL_c hR1
    have h_j : q_j = .int j := h_j
    subst h_j
    obtain ⟨q_b, rst2, rfl, h_b, hR3⟩ := js_RL_c hR2
    have h_b : q_b = .ref (js_ad G b) := h_b
    subst h_b
    obtain ⟨q_i, rst3, rfl, h_i, hR4⟩ := js_RL_c hR3
    have h_i : q_i = .int i := h_i
    subst h_i
    obtain ⟨q_a, rst4, rfl, h_a, hR5⟩ := js_RL_c hR4
    have h_a : q_a = .ref (js_ad G a) := h_a
    subst h_a
    have hR := hR5
    obtain ⟨hk9, hq⟩ := jx_ck_i hr
    have hs9 := js_cat_sum hR
    obtain ⟨us, vs, h1, h2, ⟨i0, j0, n0, hb9, l1, l2, au, av⟩, h3⟩ := jx_cp_i hq
    obtain ⟨ca, a1, a2, a3, a4, a5, a6, a7⟩ := js_ar hE hS (Nat.le_of_ble_eq_true rfl) h1
    obtain ⟨cb, b1, b2, b3, b4, b5, b6, b7⟩ := js_ar hE hS (Nat.le_of_ble_eq_true rfl) h2
    obtain ⟨ht9, rfl⟩ := b7 hb9
    have nn : ∀ z : Int32, 0 ≤ z → z.toInt = (z.toNatClampNeg : Int) := by
      intro z hz
      have hz0 : (0 : Int) ≤ z.toInt := by simpa using Int32.le_iff_toInt_le.mp hz
      show z.toInt = ((z.toInt.toNat : Nat) : Int)
      omega
    obtain ⟨av1, av2, av3⟩ := js_cpl au av l1 l2
    rw [js_row av] at b1 b5
    obtain ⟨ns0, k0, hk0, cm0, hkk0⟩ := a2
    obtain ⟨-, k1, hk1, cm1, hkk1⟩ := b2
    intro T hT X
    have hsa : us.length = ca.slots.size ∨ True := Or.inr trivial
    obtain ⟨vm', X', step⟩ := X.arraycopy hx hown (hts _ hw1) (hts _ hw2) (hts _ hw3) (hts _ hw4) (src := js_ad G a) (dst := js_ad G b) (cs := ca) (cd := vp_cell (G.2.2.1 104) (vs.length, .inl (js_iv vs))) (srcPos := i) (destPos := j) (n := n) (by rw [hT]; exact a1) (by rw [hT]; exact b1)
      ns0 (fun _ z => by cases z) a3 (fun z => by cases z) hk0 hk1 hkk0 hkk1 (by simp [js_ty, refKind]) (Int32.not_lt.mpr i0) (Int32.not_lt.mpr j0) (Int32.not_lt.mpr n0)
      (by rw [nn i i0, nn n n0]; omega)
      (by rw [nn j j0, nn n n0]; show ¬ _ > ((arrV (G.2.2.1 104) vs.length (fun k => .int (js_iv vs k))).slots.size : Int); rw [arrV_size]; omega)
      (fun vm₁ _ z hz => by
        have hz1 : i.toNatClampNeg + z < us.length := by omega
        have e : ca.slots.getD (i.toNatClampNeg + z) .null = .int (js_iv us (i.toNatClampNeg + z)) := by
          rw [Array.getD_eq_getD_getElem?, a6 _ _ (List.getElem?_eq_getElem hz1)]
          have hi := List.all_eq_true.mp au _ (List.getElem_mem hz1)
          have e3 : us.getD (i.toNatClampNeg + z) .null = us[i.toNatClampNeg + z] := by rw [List.getD_eq_getElem?_getD, List.getElem?_eq_getElem hz1]; rfl
          unfold js_iv
          rw [e3]
          generalize us[i.toNatClampNeg + z] = v at hi ⊢
          cases v <;> first | rfl | cases hi
        refine ⟨?_, ?_⟩
        · rw [e]
          have hf := js_fit hS h1 _ (List.getElem_mem hz1)
          have hi := List.all_eq_true.mp au _ (List.getElem_mem hz1)
          have e3 : us.getD (i.toNatClampNeg + z) .null = us[i.toNatClampNeg + z] := by rw [List.getD_eq_getElem?_getD, List.getElem?_eq_getElem hz1]; rfl
          unfold js_iv
          rw [e3]
          generalize us[i.toNatClampNeg + z] = v at hi hf ⊢
          cases v <;> first | exact hf | cases hi
        · rw [e]; exact trivial)
      (g := F0 mth pc rls (.int n :: .int j :: .ref (js_ad G b) :: .int i :: .ref (js_ad G a) :: rst4)) rfl (by show rls.size = _; rw [hL.1, hml]) (rest := rst4) rfl (by rw [hb]; exact hd) hRf (by show 2 * 0 + _ + _ ≤ _; have hw : nativeFrameWords "java/lang/System" "arraycopy" 5 ≤ 20 := (by decide); omega)
    have e1 : copied ca (vp_cell (G.2.2.1 104) (vs.length, .inl (js_iv vs))) i j n = vp_cell (G.2.2.1 104) (vs.length, .inl (va_cpy (js_iv us) (js_iv vs) i.toNatClampNeg j.toNatClampNeg n.toNatClampNeg)) := va_copiedX (fun z => .int z) ca (G.2.2.1 104) (js_iv us) (js_iv vs) (n0 := us.length) (fun z hz => by
        rw [a6 _ _ (List.getElem?_eq_getElem hz)]
        have hi := List.all_eq_true.mp au _ (List.getElem_mem hz)
        have e3 : us.getD z .null = us[z] := by rw [List.getD_eq_getElem?_getD, List.getElem?_eq_getElem hz]; rfl
        unfold js_iv
        rw [e3]
        generalize us[z] = v at hi ⊢
        cases v <;> first | rfl | cases hi) l1
    rw [e1] at X' step
    generalize hcell : vp_cell (G.2.2.1 104) (vs.length, .inl (va_cpy (js_iv us) (js_iv vs) i.toNatClampNeg j.toNatClampNeg n.toNatClampNeg)) = nc9 at X' step
    have hl : js_ad G b < H.size := (Array.getElem?_eq_some_iff.mp b1).1
    have hheap : ((T.setVm vm').setCell (js_ad G b) nc9).heap = H.setIfInBounds (js_ad G b) nc9 := by rw [← hT]; rfl
    have oq : ∀ q : Nat, q ≠ js_ad G b → (H.setIfInBounds (js_ad G b) nc9)[q]? = H[q]? := fun q hq => by simp [Array.getElem?_setIfInBounds, Ne.symm hq]
    have hX : js_X G (H.setIfInBounds (js_ad G b) nc9) b (104, vs.take j.toNatClampNeg ++ ((us.drop i.toNatClampNeg).take n.toNatClampNeg) ++ vs.drop (j.toNatClampNeg + n.toNatClampNeg)) := by
      refine Or.inr ⟨ht9, ?_, fun _ u hu => by
        rcases List.mem_append.mp hu with k | k
        · rcases List.mem_append.mp k with k | k
          · exact js_fit hS h2 u (List.mem_of_mem_take k)
          · exact js_fit hS h1 u (List.mem_of_mem_drop (List.mem_of_mem_take k))
        · exact js_fit hS h2 u (List.mem_of_mem_drop k)⟩
      rw [js_row av2, av1]
      rw [show (H.setIfInBounds (js_ad G b) nc9)[js_ad G b]? = some nc9 by simp [Array.getElem?_setIfInBounds, hl], ← hcell]
      congr 1
      rw [vp_cell_i, vp_cell_i]
      unfold arrV
      congr 2
      funext z
      exact congrArg Value.int (av3 _ z.isLt).symm
    have hu := js_S_upd (i := 0) hS hb9 h2 (by simp) oq hX
    obtain ⟨t, z1, z2⟩ := kk _ _ _ (jx_set h b _) _ _ _ _ h3 ⟨hu.1, hu.2.1, hu.2.2.1, fun q hq => by
      rcases List.mem_append.mp hq with z | z
      · exact hS.2.2.2 q z
      · obtain ⟨y, -, hy⟩ := List.mem_map.mp z
        rw [← hy]
        exact js_A_ad hb9⟩ hL hR (jx_le_r h) _ hheap X'
    exact ⟨t, step t z1, z2⟩
  · cases hr
theorem st_cl {m pc : Nat} {idx : Nat} (hw1 : Jvm.Cond.methodLink (js_y m).cls idx ⟨"[B", "clone", "()Ljava/lang/Object;"⟩ ∈ js_ws) (hw2 : Jvm.Cond.sameMethod "[B" "java/lang/Object" "clone" "()Ljava/lang/Object;" ∈ js_ws) (hw3 : Jvm.Cond.native ⟨"java/lang/Object", "clone", "()Ljava/lang/Object;"⟩ ∈ js_ws) (hw4 : Jvm.Cond.instanceMethod ⟨"java/lang/Object", "clone", "()Ljava/lang/Object;"⟩ ∈ js_ws) (hw5 : Jvm.Cond.selects "[B" ⟨"[B", "clone", "()Ljava/lang/Object;"⟩ ⟨"java/lang/Object", "clone", "()Ljava/lang/Object;"⟩ ∈ js_ws) (hw6 : Jvm.Cond.castable "[B" "java/lang/Cloneable" ∈ lw_tbl) (hd : decode (js_b m) pc = .ok (.invokevirtual idx, 3)) : js_St m pc (o_cl 104 (pc + 3)) := by
  intro p l e R s mth args below meth c Q G H locs ls st h rls rst C K r c0 s0 hC hS hL hR hc hs hRc hRs hRf hRl hm hr kk
  obtain ⟨hx, hb, hml, hown, hts, hlk, hE, hB⟩ := hC
  unfold o_cl at hr
  split at hr
  · rename_i a rr
    obtain ⟨q_a, rst0, rfl, h_a, hR1⟩ := js_RL_c hR
    have h_a : q_a = .ref (js_ad G a) := h_a
    subst h_a
    have hR := hR1
    obtain ⟨vs, h1, ⟨ha, hall, h4, hn⟩, hq⟩ := jx_cln_i hr
    obtain ⟨hk9, hr⟩ := jx_ck_i hq
    have hs9 := js_cat_sum hR
    obtain ⟨cell, c1, c2, c3, c4, c5, c6, c7⟩ := js_ar hE hS (Nat.le_of_ble_eq_true rfl) h1
    obtain ⟨ht9, rfl⟩ := c7 ha
    have hle := hm _ _ _ _ hr
    have l1 : h.2.2.1 + 1 ≤ r.2.2.2.1 := hle.2.1
    have l2 : h.2.2.2 + vs.length ≤ r.2.2.2.2 := hle.2.2
    have ead := js_ad_new hS hn
    have hnm : s.vm.findClass "[B" = some (G.2.2.1 104) := (hE.2.2.1 104 ht9).2
    obtain ⟨cl0, t0', f1, f2, f3⟩ := Cond.castable_spec (va_Nw.use (A := args) rfl (hE.1 _ hw6 rfl))
    cases hnm.symm.trans f1
    have c2' : s.isArrayOf ({ cls := G.2.2.1 104, slots := (vs.map (js_v G)).toArray, vm := .none } : Cell) .byte := c2
    obtain ⟨-, kS, hkS, compS, hkindS⟩ := id c2'
    have hsz : (vs.map (js_v G)).toArray.size = vs.length := by rw [List.size_toArray, List.length_map]
    intro T hT X
    have hcellT : T.heap[js_ad G a]? = some ({ cls := G.2.2.1 104, slots := (vs.map (js_v G)).toArray, vm := .none } : Cell) := by rw [hT]; exact c1
    obtain ⟨-, kA, hkA, comp, hkind⟩ := State.isArrayOf_alike X.warmed.alike c2'
    obtain ⟨vm', X', step⟩ := X.cloneArray hx hown (hts _ hw1) (hts _ hw2) (hts _ hw3) (hts _ hw4) (hts _ hw5) (a := js_ad G a) (cell := { cls := G.2.2.1 104, slots := (vs.map (js_v G)).toArray, vm := .none }) hcellT (fun k z => by cases z) (fun z => by cases z) hnm f2 f3
      (fun i v hv => by
        have hk' : T.vm.classes[G.2.2.1 104]? = some kA := hkA
        have hv9 : (vs.map (js_v G)).toArray[i]? = some v := hv
        rw [List.getElem?_toArray, List.getElem?_map] at hv9
        have hf : fits .byte v = true := by
          cases e9 : vs[i]? with
          | none => rw [e9] at hv9; cases hv9
          | some u =>
            rw [e9] at hv9
            have hu := List.all_eq_true.mp hall u (List.mem_of_getElem? e9)
            cases hv9
            unfold jx_b7 at hu
            split at hu
            · rename_i x
              rw [Bool.and_eq_true] at hu
              obtain ⟨q9, hq9, rfl⟩ := js_by ⟨of_decide_eq_true hu.1, of_decide_eq_true hu.2⟩
              exact fa_bf _ hq9
            · cases hu
        simpa [State.fitsSlot, State.slotType?, hk', hkind] using hf)
      (g := F0 mth pc rls (.ref (js_ad G a) :: rst0)) rfl (by show rls.size = _; rw [hL.1, hml]) rfl (by rw [hb]; exact hd) hRf (by show 2 * 0 + _ + 14 ≤ _; omega) (by omega) (by show _ + (vs.map (js_v G)).toArray.size ≤ _; rw [hsz]; omega) (hloader := Vm.clonesLoader_of_array hkS hkindS)
    have hX : js_X G (H.push ({ cls := G.2.2.1 104, slots := (vs.map (js_v G)).toArray, vm := .none } : Cell)) h.2.1 (104, vs) := Or.inr ⟨ht9, by rw [ead, Array.getElem?_push_size], fun _ => js_fit hS h1⟩
    have hk := kk (pc + 3) ls (.ref h.2.1 :: rr) (jx_add h (104, vs) vs.length) (H.push ({ cls := G.2.2.1 104, slots := (vs.map (js_v G)).toArray, vm := .none } : Cell)) locs rls (.ref (js_ad G h.2.1) :: rst0) hr (js_S_add hS hn (Array.size_push _) (fun q hq => by rw [Array.getElem?_push, if_neg (Nat.ne_of_lt hq)]) hX) hL ⟨rfl, hR⟩ ⟨Nat.le_succ _, Nat.le_succ _, Nat.le_add_right _ _⟩
    rw [ead] at hk
    have ec : (jx_add h (104, vs) vs.length).2.2.1 - c0 = h.2.2.1 - c0 + 1 := by show h.2.2.1 + 1 - c0 = _; omega
    have es : (jx_add h (104, vs) vs.length).2.2.2 - s0 = h.2.2.2 - s0 + (vs.map (js_v G)).toArray.size := by rw [hsz]; show h.2.2.2 + vs.length - s0 = _; omega
    rw [ec, es] at hk
    obtain ⟨t, b1, b2⟩ := hk ((T.setVm vm').pushCell ({ cls := G.2.2.1 104, slots := (vs.map (js_v G)).toArray, vm := .none } : Cell)) (by rw [← hT]; rfl) X'
    refine ⟨t, step t ?_, b2⟩
    rw [hT]
    exact b1
  · cases hr
theorem st_ca {m pc : Nat} {idx : Nat} (hw1 : Jvm.Cond.classLink (js_y m).cls idx "[B" ∈ js_ws) (hd : decode (js_b m) pc = .ok (.checkcast idx, 3)) : js_St m pc (o_ca 104 (pc + 3)) := by
  intro p l e R s mth args below meth c Q G H locs ls st h rls rst C K r c0 s0 hC hS hL hR hc hs hRc hRs hRf hRl hm hr kk
  obtain ⟨hx, hb, hml, hown, hts, hlk, hE, hB⟩ := hC
  obtain ⟨a, rr, vs, rfl, ha, h1, hr⟩ := o_ca_i hr
  obtain ⟨q_a, rst0, rfl, h_a, hR1⟩ := js_RL_c hR
  have h_a : q_a = .ref (js_ad G a) := h_a
  subst h_a
  have hR := hR1
  obtain ⟨cell, c1, c2, c3, c4, c5, c6, c7⟩ := js_ar hE hS (Nat.le_of_ble_eq_true rfl) h1
  obtain ⟨ht9, rfl⟩ := c7 ha
  have hnm : s.vm.findClass "[B" = some (G.2.2.1 104) := (hE.2.2.1 104 ht9).2
  intro T hT X
  obtain ⟨vm', X', step⟩ := X.checkcastYes hx hown (hts _ hw1) (by rw [hT]; exact c1) rfl hnm (va_asg _ _) (g := F0 mth pc rls (.ref (js_ad G a) :: rst0)) rfl rfl (by rw [hb]; exact hd)
  obtain ⟨t, a1, b1⟩ := kk _ _ _ _ _ _ _ (.ref (js_ad G a) :: rst0) hr hS hL ⟨rfl, hR⟩ (jx_le_r _) (T.setVm vm') hT X'
  exact ⟨t, step t a1, b1⟩
end JS
