section JS
theorem js_ch {x : Int32} (h : 0 ≤ x ∧ x < 65536) : ∃ q : Nat, q < 65536 ∧ x = nI q := by
  obtain ⟨j, hj, rfl⟩ := nI_of (Int32.not_lt.mpr h.1)
  refine ⟨j, ?_, rfl⟩
  have h2 : nI j < nI 65536 := h.2
  exact (nI_ltI hj (by decide)).mp h2
theorem js_by {x : Int32} (h : 0 ≤ x ∧ x < 128) : ∃ q : Nat, q < 128 ∧ x = nI q := by
  obtain ⟨j, hj, rfl⟩ := nI_of (Int32.not_lt.mpr h.1)
  refine ⟨j, ?_, rfl⟩
  have h2 : nI j < nI 128 := h.2
  exact (nI_ltI hj (by decide)).mp h2
theorem fa_bs {n : Nat} (h : n < 128) : (nI n).toInt8.toInt32 = nI n := by
  apply Int32.toInt_inj.mp
  rw [Int8.toInt_toInt32, Int32.toInt_toInt8, nI_toInt (by omega)]
  exact Int.bmod_eq_of_le (by omega) (by omega)
theorem fa_bf : ∀ q, q < 128 → fits .byte (.int (nI q)) = true := by decide +kernel
theorem js_put_own {p : Program} {l : Launch} {e : Env} {R : Room} {s : State} {mth : MethodId} {args : Array Value} {below : List Frame} {meth : Method} {c : Code} {Q : State → Prop} {G : js_G} {H : Heap} {locs : List Loc} {h : jx_H} {rls : Array Slot} {rst : List Value} {cells slots : Nat} {m pc : Nat} {t k idx a : Nat} {C : String} {T : u_T} {N : Nat} {ty0 : Nat → FieldType} {fs : List Value} {v : Value} {ty : FieldType} (hx : p.tables.exec = Jvm.exec) (hb : c.code = js_b m) (hown : s.vm.findClass (js_y m).cls = some mth.cls) (hts : ∀ w ∈ js_ws, w.before args s = true) (hE : js_Ev G s s.heap) (hS : js_S G s H locs h)
    (hcl : js_cls t C T N ty0) (hk : k < N) (hfin : (T k).2.2.2 = false) (hw : Jvm.Cond.fieldLink (js_y m).cls idx (T k).1 (T k).2.1 (T k).2.2.1 ∈ js_ws) (ha : jx_nc ≤ a) (h1 : h.1 a = some (t, fs)) (hd : parseFieldDescriptor (T k).2.2.1 = some ty) (hn : narrow ty (js_v G v) = js_v G v) (hfit : fits ty (js_v G v) = true) (hdg : decode (js_b m) pc = .ok (.putfield idx, 3))
    (kk : ∀ (H1 : Heap) (locs1 : List Loc), js_S G s H1 locs1 (jx_set h a (t, fs.set k v)) → W p l e R s mth args below meth c H1 locs1 cells slots Q (F0 mth (pc + 3) rls rst)) : W p l e R s mth args below meth c H locs cells slots Q (F0 mth pc rls (js_v G v :: .ref (js_ad G a) :: rst)) := by
  obtain ⟨hc, hin, hty, hnm⟩ := id hcl
  obtain ⟨hlen, hob⟩ := js_ob2 hS hcl ha h1
  have hap := va_apart (own := (js_y m).cls) hts hin ty0 hty hnm hE.2.1 hc
  obtain ⟨cell, q1, q2, q3, q4⟩ := id hob
  obtain ⟨hSl, hfc, kC, hkC, hkind⟩ := hE.2.1.1 t _ hc
  obtain ⟨cf, kf, fi, f, hi, hsl⟩ := hSl k hk
  have hlay := hts _ (hin _ (u_in_lay hk))
  unfold u_lay at hlay
  rw [if_neg (by rw [hfin]; decide)] at hlay
  have hst := (u_facts hfc hkC (u_lays hts hin hk) hi).1
  have h6 := u_store hfc hkC hkind hlay hi hd hn hfit
  refine W.putK hx hb (f := f) ⟨hown, hts _ hw, ⟨_, _, _, hi⟩, hst⟩ (by rw [q2]; exact h6) q1 q3 (by rw [hsl]; exact k2_hasslot (q4 k hk)) rfl rfl hdg fun H' e1 e2 e3 => ?_
  rw [hsl] at e1 ⊢
  refine kk H' _ (js_S_upd hS ha h1 e2 e3 (Or.inl ⟨_, hc, by rw [List.length_set]; exact hlen, ?_⟩))
  refine t_OB.to (V := updV (vp_V (fs.map (js_v G))) k (js_v G v)) ⟨_, e1, q2, q3, t_set q4 hap hk (js_v G v)⟩ (fun j _ => ?_)
  rw [vp_updV_set (by rw [List.length_map, hlen]; exact hk), List.map_set]
theorem js_put_nst {p : Program} {l : Launch} {e : Env} {R : Room} {s : State} {mth : MethodId} {args : Array Value} {below : List Frame} {meth : Method} {c : Code} {Q : State → Prop} {G : js_G} {H : Heap} {locs : List Loc} {h : jx_H} {rls : Array Slot} {rst : List Value} {cells slots : Nat} {m pc : Nat} {t k idx a : Nat} {C : String} {T : u_T} {N : Nat} {ty0 : Nat → FieldType} {fs : List Value} {v : Value} {ty : FieldType} {host : String} (hx : p.tables.exec = Jvm.exec) (hb : c.code = js_b m) (hown : s.vm.findClass (js_y m).cls = some mth.cls) (hts : ∀ w ∈ js_ws, w.before args s = true) (hE : js_Ev G s s.heap) (hS : js_S G s H locs h)
    (hcl : js_cls t C T N ty0) (hk : k < N) (hfin : (T k).2.2.2 = false) (hw : Jvm.Cond.fieldLinkNest (js_y m).cls idx (T k).1 (T k).2.1 (T k).2.2.1 host ∈ lw_tbl) (ha : jx_nc ≤ a) (h1 : h.1 a = some (t, fs)) (hd : parseFieldDescriptor (T k).2.2.1 = some ty) (hn : narrow ty (js_v G v) = js_v G v) (hfit : fits ty (js_v G v) = true) (hdg : decode (js_b m) pc = .ok (.putfield idx, 3))
    (kk : ∀ (H1 : Heap) (locs1 : List Loc), js_S G s H1 locs1 (jx_set h a (t, fs.set k v)) → W p l e R s mth args below meth c H1 locs1 cells slots Q (F0 mth (pc + 3) rls rst)) : W p l e R s mth args below meth c H locs cells slots Q (F0 mth pc rls (js_v G v :: .ref (js_ad G a) :: rst)) := by
  obtain ⟨hc, hin, hty, hnm⟩ := id hcl
  obtain ⟨hlen, hob⟩ := js_ob2 hS hcl ha h1
  have hap := va_apart (own := (js_y m).cls) hts hin ty0 hty hnm hE.2.1 hc
  obtain ⟨cell, q1, q2, q3, q4⟩ := id hob
  obtain ⟨hSl, hfc, kC, hkC, hkind⟩ := hE.2.1.1 t _ hc
  obtain ⟨cf, kf, fi, f, hi, hsl⟩ := hSl k hk
  have hlay := hts _ (hin _ (u_in_lay hk))
  unfold u_lay at hlay
  rw [if_neg (by rw [hfin]; decide)] at hlay
  have hst := (u_facts hfc hkC (u_lays hts hin hk) hi).1
  have h6 := u_store hfc hkC hkind hlay hi hd hn hfit
  refine va_WputK hx hb (f := f) hown (va_Nw.use rfl (hE.1 _ hw rfl)) hi hst (by rw [q2]; exact h6) q1 q3 (by rw [hsl]; exact k2_hasslot (q4 k hk)) rfl rfl hdg fun H' e1 e2 e3 => ?_
  rw [hsl] at e1 ⊢
  refine kk H' _ (js_S_upd hS ha h1 e2 e3 (Or.inl ⟨_, hc, by rw [List.length_set]; exact hlen, ?_⟩))
  refine t_OB.to (V := updV (vp_V (fs.map (js_v G))) k (js_v G v)) ⟨_, e1, q2, q3, t_set q4 hap hk (js_v G v)⟩ (fun j _ => ?_)
  rw [vp_updV_set (by rw [List.length_map, hlen]; exact hk), List.map_set]
theorem js_put_fin {p : Program} {l : Launch} {e : Env} {R : Room} {s : State} {mth : MethodId} {args : Array Value} {below : List Frame} {meth : Method} {c : Code} {Q : State → Prop} {G : js_G} {H : Heap} {locs : List Loc} {h : jx_H} {rls : Array Slot} {rst : List Value} {cells slots : Nat} {m pc : Nat} {t k idx a : Nat} {C : String} {T : u_T} {N : Nat} {ty0 : Nat → FieldType} {fs : List Value} {v : Value} {ty : FieldType} (hx : p.tables.exec = Jvm.exec) (hb : c.code = js_b m) (hown : s.vm.findClass (js_y m).cls = some mth.cls) (hts : ∀ w ∈ js_ws, w.before args s = true) (hE : js_Ev G s s.heap) (hS : js_S G s H locs h)
    (hcl : js_cls t C T N ty0) (hk : k < N) (hfin : (T k).2.2.2 = true) (hin2 : meth.name = "<init>") (hdecl : (T k).1 = (js_y m).cls) (hw : Jvm.Cond.fieldLink (js_y m).cls idx (T k).1 (T k).2.1 (T k).2.2.1 ∈ js_ws) (ha : jx_nc ≤ a) (h1 : h.1 a = some (t, fs)) (hd : parseFieldDescriptor (T k).2.2.1 = some ty) (hn : narrow ty (js_v G v) = js_v G v) (hfit : fits ty (js_v G v) = true) (hdg : decode (js_b m) pc = .ok (.putfield idx, 3))
    (kk : ∀ (H1 : Heap) (locs1 : List Loc), js_S G s H1 locs1 (jx_set h a (t, fs.set k v)) → W p l e R s mth args below meth c H1 locs1 cells slots Q (F0 mth (pc + 3) rls rst)) : W p l e R s mth args below meth c H locs cells slots Q (F0 mth pc rls (js_v G v :: .ref (js_ad G a) :: rst)) := by
  obtain ⟨hc, hin, hty, hnm⟩ := id hcl
  obtain ⟨hlen, hob⟩ := js_ob2 hS hcl ha h1
  have hap := va_apart (own := (js_y m).cls) hts hin ty0 hty hnm hE.2.1 hc
  obtain ⟨cell, q1, q2, q3, q4⟩ := id hob
  obtain ⟨hSl, hfc, kC, hkC, hkind⟩ := hE.2.1.1 t _ hc
  obtain ⟨cf, kf, fi, f, hi, hsl⟩ := hSl k hk
  have hlay := hts _ (hin _ (u_in_lay hk))
  unfold u_lay at hlay
  rw [if_pos hfin] at hlay
  have hst := (u_facts hfc hkC (u_lays hts hin hk) hi).1
  have hcf : mth.cls = cf := by
    obtain ⟨_, _, c', _, _, _, -, -, hf', -, -, -, hown2, -⟩ := Cond.laysFinal_spec hlay
    have e1 : c' = cf := by have := hi.symm.trans hf'; simp at this; exact this.1.symm
    rw [hdecl] at hown2
    rw [← e1]; exact Option.some.inj (hown.symm.trans hown2)
  have h6 := u_fits hfc hkC hkind (Or.inr hlay) hi hd hn hfit
  refine W.putFinK hx hb hown (hts _ hw) hi hst hcf hin2 (by rw [q2]; exact h6) q1 q3 (by rw [hsl]; exact k2_hasslot (q4 k hk)) rfl rfl hdg fun H' e1 e2 e3 => ?_
  rw [hsl] at e1 ⊢
  refine kk H' _ (js_S_upd hS ha h1 e2 e3 (Or.inl ⟨_, hc, by rw [List.length_set]; exact hlen, ?_⟩))
  refine t_OB.to (V := updV (vp_V (fs.map (js_v G))) k (js_v G v)) ⟨_, e1, q2, q3, t_set q4 hap hk (js_v G v)⟩ (fun j _ => ?_)
  rw [vp_updV_set (by rw [List.length_map, hlen]; exact hk), List.map_set]
theorem st_gI {m pc : Nat} {t k idx : Nat} {C : String} {T : u_T} {N : Nat} {ty0 : Nat → FieldType} (hcl : js_cls t C T N ty0) (hk : k < N) (ht20 : t < 20) (hw : Jvm.Cond.fieldLink (js_y m).cls idx (T k).1 (T k).2.1 (T k).2.2.1 ∈ js_ws) (hd : decode (js_b m) pc = .ok (.getfield idx, 3)) : js_St m pc (o_gI t k (pc + 3)) := by
  intro p l e R s mth args below meth c Q G H locs ls st h rls rst C K r c0 s0 hC hS hL hR hc hs hRc hRs hRf hRl hm hr kk
  obtain ⟨hx, hb, hml, hown, hts, hlk, hE, hB⟩ := hC
  unfold o_gI at hr
  split at hr
  · rename_i a rr
    obtain ⟨q_a, rst0, rfl, h_a, hR1⟩ := js_RL_c hR
    have h_a : q_a = .ref (js_ad G a) := h_a
    subst h_a
    have hR := hR1
    obtain ⟨fs, x, h1, h2, hr⟩ := jx_gI_i hr
    obtain ⟨ha, hlen, hob⟩ := js_ob hS hcl ht20 h1
    exact va_get hx hb hts hcl.2.1 hown hE.2.1 (js_at_of hcl.1 hob) 0 rfl hcl.1 k hk (hts _ hw) (fun _ z => z) (v := js_v G (.int x)) (by rw [List.getElem?_map, h2]; rfl) hd (kk _ _ _ _ _ _ _ _ hr hS hL ⟨rfl, hR⟩ (jx_le_r _))
  · cases hr
theorem st_gIn {m pc : Nat} {t k idx : Nat} {C : String} {T : u_T} {N : Nat} {ty0 : Nat → FieldType} (hcl : js_cls t C T N ty0) (hk : k < N) (ht20 : t < 20) {host : String} (hw : Jvm.Cond.fieldLinkNest (js_y m).cls idx (T k).1 (T k).2.1 (T k).2.2.1 host ∈ lw_tbl) (hd : decode (js_b m) pc = .ok (.getfield idx, 3)) : js_St m pc (o_gI t k (pc + 3)) := by
  intro p l e R s mth args below meth c Q G H locs ls st h rls rst C K r c0 s0 hC hS hL hR hc hs hRc hRs hRf hRl hm hr kk
  obtain ⟨hx, hb, hml, hown, hts, hlk, hE, hB⟩ := hC
  unfold o_gI at hr
  split at hr
  · rename_i a rr
    obtain ⟨q_a, rst0, rfl, h_a, hR1⟩ := js_RL_c hR
    have h_a : q_a = .ref (js_ad G a) := h_a
    subst h_a
    have hR := hR1
    obtain ⟨fs, x, h1, h2, hr⟩ := jx_gI_i hr
    obtain ⟨ha, hlen, hob⟩ := js_ob hS hcl ht20 h1
    exact va_getN hx hb hts hcl.2.1 hown hE.2.1 (js_at_of hcl.1 hob) 0 rfl hcl.1 k hk (va_Nw.use rfl (hE.1 _ hw rfl)) (fun _ z => z) (v := js_v G (.int x)) (by rw [List.getElem?_map, h2]; rfl) hd (kk _ _ _ _ _ _ _ _ hr hS hL ⟨rfl, hR⟩ (jx_le_r _))
  · cases hr
theorem st_gI20 {m pc : Nat} {k idx : Nat} (hk : k < 2) (hcf : js_cf 20 k = ((TJ0 k).1, (TJ0 k).2.1, (TJ0 k).2.2.1)) (hw : Jvm.Cond.fieldLink (js_y m).cls idx (TJ0 k).1 (TJ0 k).2.1 (TJ0 k).2.2.1 ∈ js_ws) (hd : decode (js_b m) pc = .ok (.getfield idx, 3)) : js_St m pc (o_gI 20 k (pc + 3)) := by
  intro p l e R s mth args below meth c Q G H locs ls st h rls rst C K r c0 s0 hC hS hL hR hc hs hRc hRs hRf hRl hm hr kk
  obtain ⟨hx, hb, hml, hown, hts, hlk, hE, hB⟩ := hC
  unfold o_gI at hr
  split at hr
  · rename_i a rr
    obtain ⟨q_a, rst0, rfl, h_a, hR1⟩ := js_RL_c hR
    have h_a : q_a = .ref (js_ad G a) := h_a
    subst h_a
    have hR := hR1
    obtain ⟨fs, x, h1, h2, hr⟩ := jx_gI_i hr
    rcases Nat.lt_or_ge a jx_nc with ha | ha
    · have e0 := hS.1.2.1 a ha
      rw [h1] at e0
      rcases hE.2.2.2.1 a _ ha e0.symm with ⟨k1, -⟩ | ⟨-, -, -, hT⟩
      · dsimp only at k1; omega
      · have hT9 := hT k _ h2
        have hT8 : va_OF (js_cf 20 k).1 (js_cf 20 k).2.1 (js_cf 20 k).2.2 (js_v G (.int x)) (js_ad G a) (js_A G) s s.heap := hT9
        rw [hcf] at hT8
        obtain ⟨cf, kf, i9, f, cell, g1, g2, g3, g4, g5, -⟩ := hT8.kept hS.2.2.1
        exact W.getf hx hb hown (hts _ hw) g1 g2 g3 g4 (v := js_v G (.int x)) g5 rfl rfl hd (kk _ _ _ _ _ _ _ _ hr hS hL ⟨rfl, hR⟩ (jx_le_r _))
    · obtain ⟨hlen, hob⟩ := js_ob2 hS js_c20 ha h1
      exact va_get hx hb hts js_c20.2.1 hown hE.2.1 (js_at_of js_c20.1 hob) 0 rfl js_c20.1 k (by omega) (hts _ hw) (fun _ z => z) (v := js_v G (.int x)) (by rw [List.getElem?_map, h2]; rfl) hd (kk _ _ _ _ _ _ _ _ hr hS hL ⟨rfl, hR⟩ (jx_le_r _))
  · cases hr
theorem st_gIc {m pc : Nat} {t k idx : Nat} (ht1 : 21 ≤ t) (ht2 : t < 100) (hw : Jvm.Cond.fieldLink (js_y m).cls idx (js_cf t k).1 (js_cf t k).2.1 (js_cf t k).2.2 ∈ js_ws) (hd : decode (js_b m) pc = .ok (.getfield idx, 3)) : js_St m pc (o_gI t k (pc + 3)) := by
  intro p l e R s mth args below meth c Q G H locs ls st h rls rst C K r c0 s0 hC hS hL hR hc hs hRc hRs hRf hRl hm hr kk
  obtain ⟨hx, hb, hml, hown, hts, hlk, hE, hB⟩ := hC
  unfold o_gI at hr
  split at hr
  · rename_i a rr
    obtain ⟨q_a, rst0, rfl, h_a, hR1⟩ := js_RL_c hR
    have h_a : q_a = .ref (js_ad G a) := h_a
    subst h_a
    have hR := hR1
    obtain ⟨fs, x, h1, h2, hr⟩ := jx_gI_i hr
    have ha : a < jx_nc := by
      rcases Nat.lt_or_ge a jx_nc with q | q
      · exact q
      · obtain ⟨hx9, -⟩ := hS.1.1 a _ q h1
        rcases hx9 with ⟨r9, k1, -⟩ | ⟨k1, -⟩
        · have := js_lt9 k1
          dsimp only at this; omega
        · simp only [List.mem_cons, List.not_mem_nil, or_false] at k1
          omega
    have e0 := hS.1.2.1 a ha
    rw [h1] at e0
    rcases hE.2.2.2.1 a _ ha e0.symm with ⟨k1, -⟩ | ⟨-, -, -, hT⟩
    · dsimp only at k1; omega
    · obtain ⟨cf, kf, i9, f, cell, g1, g2, g3, g4, g5, -⟩ := (hT k _ h2).kept hS.2.2.1
      exact W.getf hx hb hown (hts _ hw) g1 g2 g3 g4 (v := js_v G (.int x)) g5 rfl rfl hd (kk _ _ _ _ _ _ _ _ hr hS hL ⟨rfl, hR⟩ (jx_le_r _))
  · cases hr
theorem st_gIcn {m pc : Nat} {t k idx : Nat} (ht1 : 21 ≤ t) (ht2 : t < 100) {host : String} (hw : Jvm.Cond.fieldLinkNest (js_y m).cls idx (js_cf t k).1 (js_cf t k).2.1 (js_cf t k).2.2 host ∈ lw_tbl) (hd : decode (js_b m) pc = .ok (.getfield idx, 3)) : js_St m pc (o_gI t k (pc + 3)) := by
  intro p l e R s mth args below meth c Q G H locs ls st h rls rst C K r c0 s0 hC hS hL hR hc hs hRc hRs hRf hRl hm hr kk
  obtain ⟨hx, hb, hml, hown, hts, hlk, hE, hB⟩ := hC
  unfold o_gI at hr
  split at hr
  · rename_i a rr
    obtain ⟨q_a, rst0, rfl, h_a, hR1⟩ := js_RL_c hR
    have h_a : q_a = .ref (js_ad G a) := h_a
    subst h_a
    have hR := hR1
    obtain ⟨fs, x, h1, h2, hr⟩ := jx_gI_i hr
    have ha : a < jx_nc := by
      rcases Nat.lt_or_ge a jx_nc with q | q
      · exact q
      · obtain ⟨hx9, -⟩ := hS.1.1 a _ q h1
        rcases hx9 with ⟨r9, k1, -⟩ | ⟨k1, -⟩
        · have := js_lt9 k1
          dsimp only at this; omega
        · simp only [List.mem_cons, List.not_mem_nil, or_false] at k1
          omega
    have e0 := hS.1.2.1 a ha
    rw [h1] at e0
    rcases hE.2.2.2.1 a _ ha e0.symm with ⟨k1, -⟩ | ⟨-, -, -, hT⟩
    · dsimp only at k1; omega
    · obtain ⟨cf, kf, i9, f, cell, g1, g2, g3, g4, g5, -⟩ := (hT k _ h2).kept hS.2.2.1
      exact va_Wgetf hx hb hown (va_Nw.use rfl (hE.1 _ hw rfl)) g1 g2 g3 g4 (v := js_v G (.int x)) g5 rfl rfl hd (kk _ _ _ _ _ _ _ _ hr hS hL ⟨rfl, hR⟩ (jx_le_r _))
  · cases hr
theorem st_gA {m pc : Nat} {t k idx : Nat} {C : String} {T : u_T} {N : Nat} {ty0 : Nat → FieldType} (hcl : js_cls t C T N ty0) (hk : k < N) (ht20 : t < 20) (hw : Jvm.Cond.fieldLink (js_y m).cls idx (T k).1 (T k).2.1 (T k).2.2.1 ∈ js_ws) (hd : decode (js_b m) pc = .ok (.getfield idx, 3)) : js_St m pc (o_gA t k (pc + 3)) := by
  intro p l e R s mth args below meth c Q G H locs ls st h rls rst C K r c0 s0 hC hS hL hR hc hs hRc hRs hRf hRl hm hr kk
  obtain ⟨hx, hb, hml, hown, hts, hlk, hE, hB⟩ := hC
  unfold o_gA at hr
  split at hr
  · rename_i a rr
    obtain ⟨q_a, rst0, rfl, h_a, hR1⟩ := js_RL_c hR
    have h_a : q_a = .ref (js_ad G a) := h_a
    subst h_a
    have hR := hR1
    obtain ⟨fs, x, h1, h2, hr⟩ := jx_gA_i hr
    obtain ⟨ha, hlen, hob⟩ := js_ob hS hcl ht20 h1
    exact va_get hx hb hts hcl.2.1 hown hE.2.1 (js_at_of hcl.1 hob) 0 rfl hcl.1 k hk (hts _ hw) (fun _ z => z) (v := js_v G (.ref x)) (by rw [List.getElem?_map, h2]; rfl) hd (kk _ _ _ _ _ _ _ _ hr hS hL ⟨rfl, hR⟩ (jx_le_r _))
  · cases hr
theorem st_gAn {m pc : Nat} {t k idx : Nat} {C : String} {T : u_T} {N : Nat} {ty0 : Nat → FieldType} (hcl : js_cls t C T N ty0) (hk : k < N) (ht20 : t < 20) {host : String} (hw : Jvm.Cond.fieldLinkNest (js_y m).cls idx (T k).1 (T k).2.1 (T k).2.2.1 host ∈ lw_tbl) (hd : decode (js_b m) pc = .ok (.getfield idx, 3)) : js_St m pc (o_gA t k (pc + 3)) := by
  intro p l e R s mth args below meth c Q G H locs ls st h rls rst C K r c0 s0 hC hS hL hR hc hs hRc hRs hRf hRl hm hr kk
  obtain ⟨hx, hb, hml, hown, hts, hlk, hE, hB⟩ := hC
  unfold o_gA at hr
  split at hr
  · rename_i a rr
    obtain ⟨q_a, rst0, rfl, h_a, hR1⟩ := js_RL_c hR
    have h_a : q_a = .ref (js_ad G a) := h_a
    subst h_a
    have hR := hR1
    obtain ⟨fs, x, h1, h2, hr⟩ := jx_gA_i hr
    obtain ⟨ha, hlen, hob⟩ := js_ob hS hcl ht20 h1
    exact va_getN hx hb hts hcl.2.1 hown hE.2.1 (js_at_of hcl.1 hob) 0 rfl hcl.1 k hk (va_Nw.use rfl (hE.1 _ hw rfl)) (fun _ z => z) (v := js_v G (.ref x)) (by rw [List.getElem?_map, h2]; rfl) hd (kk _ _ _ _ _ _ _ _ hr hS hL ⟨rfl, hR⟩ (jx_le_r _))
  · cases hr
theorem st_gA20 {m pc : Nat} {k idx : Nat} (hk : k < 2) (hcf : js_cf 20 k = ((TJ0 k).1, (TJ0 k).2.1, (TJ0 k).2.2.1)) (hw : Jvm.Cond.fieldLink (js_y m).cls idx (TJ0 k).1 (TJ0 k).2.1 (TJ0 k).2.2.1 ∈ js_ws) (hd : decode (js_b m) pc = .ok (.getfield idx, 3)) : js_St m pc (o_gA 20 k (pc + 3)) := by
  intro p l e R s mth args below meth c Q G H locs ls st h rls rst C K r c0 s0 hC hS hL hR hc hs hRc hRs hRf hRl hm hr kk
  obtain ⟨hx, hb, hml, hown, hts, hlk, hE, hB⟩ := hC
  unfold o_gA at hr
  split at hr
  · rename_i a rr
    obtain ⟨q_a, rst0, rfl, h_a, hR1⟩ := js_RL_c hR
    have h_a : q_a = .ref (js_ad G a) := h_a
    subst h_a
    have hR := hR1
    obtain ⟨fs, x, h1, h2, hr⟩ := jx_gA_i hr
    rcases Nat.lt_or_ge a jx_nc with ha | ha
    · have e0 := hS.1.2.1 a ha
      rw [h1] at e0
      rcases hE.2.2.2.1 a _ ha e0.symm with ⟨k1, -⟩ | ⟨-, -, -, hT⟩
      · dsimp only at k1; omega
      · have hT9 := hT k _ h2
        have hT8 : va_OF (js_cf 20 k).1 (js_cf 20 k).2.1 (js_cf 20 k).2.2 (js_v G (.ref x)) (js_ad G a) (js_A G) s s.heap := hT9
        rw [hcf] at hT8
        obtain ⟨cf, kf, i9, f, cell, g1, g2, g3, g4, g5, -⟩ := hT8.kept hS.2.2.1
        exact W.getf hx hb hown (hts _ hw) g1 g2 g3 g4 (v := js_v G (.ref x)) g5 rfl rfl hd (kk _ _ _ _ _ _ _ _ hr hS hL ⟨rfl, hR⟩ (jx_le_r _))
    · obtain ⟨hlen, hob⟩ := js_ob2 hS js_c20 ha h1
      exact va_get hx hb hts js_c20.2.1 hown hE.2.1 (js_at_of js_c20.1 hob) 0 rfl js_c20.1 k (by omega) (hts _ hw) (fun _ z => z) (v := js_v G (.ref x)) (by rw [List.getElem?_map, h2]; rfl) hd (kk _ _ _ _ _ _ _ _ hr hS hL ⟨rfl, hR⟩ (jx_le_r _))
  · cases hr
theorem st_gAc {m pc : Nat} {t k idx : Nat} (ht1 : 21 ≤ t) (ht2 : t < 100) (hw : Jvm.Cond.fieldLink (js_y m).cls idx (js_cf t k).1 (js_cf t k).2.1 (js_cf t k).2.2 ∈ js_ws) (hd : decode (js_b m) pc = .ok (.getfield idx, 3)) : js_St m pc (o_gA t k (pc + 3)) := by
  intro p l e R s mth args below meth c Q G H locs ls st h rls rst C K r c0 s0 hC hS hL hR hc hs hRc hRs hRf hRl hm hr kk
  obtain ⟨hx, hb, hml, hown, hts, hlk, hE, hB⟩ := hC
  unfold o_gA at hr
  split at hr
  · rename_i a rr
    obtain ⟨q_a, rst0, rfl, h_a, hR1⟩ := js_RL_c hR
    have h_a : q_a = .ref (js_ad G a) := h_a
    subst h_a
    have hR := hR1
    obtain ⟨fs, x, h1, h2, hr⟩ := jx_gA_i hr
    have ha : a < jx_nc := by
      rcases Nat.lt_or_ge a jx_nc with q | q
      · exact q
      · obtain ⟨hx9, -⟩ := hS.1.1 a _ q h1
        rcases hx9 with ⟨r9, k1, -⟩ | ⟨k1, -⟩
        · have := js_lt9 k1
          dsimp only at this; omega
        · simp only [List.mem_cons, List.not_mem_nil, or_false] at k1
          omega
    have e0 := hS.1.2.1 a ha
    rw [h1] at e0
    rcases hE.2.2.2.1 a _ ha e0.symm with ⟨k1, -⟩ | ⟨-, -, -, hT⟩
    · dsimp only at k1; omega
    · obtain ⟨cf, kf, i9, f, cell, g1, g2, g3, g4, g5, -⟩ := (hT k _ h2).kept hS.2.2.1
      exact W.getf hx hb hown (hts _ hw) g1 g2 g3 g4 (v := js_v G (.ref x)) g5 rfl rfl hd (kk _ _ _ _ _ _ _ _ hr hS hL ⟨rfl, hR⟩ (jx_le_r _))
  · cases hr
theorem st_gAcn {m pc : Nat} {t k idx : Nat} (ht1 : 21 ≤ t) (ht2 : t < 100) {host : String} (hw : Jvm.Cond.fieldLinkNest (js_y m).cls idx (js_cf t k).1 (js_cf t k).2.1 (js_cf t k).2.2 host ∈ lw_tbl) (hd : decode (js_b m) pc = .ok (.getfield idx, 3)) : js_St m pc (o_gA t k (pc + 3)) := by
  intro p l e R s mth args below meth c Q G H locs ls st h rls rst C K r c0 s0 hC hS hL hR hc hs hRc hRs hRf hRl hm hr kk
  obtain ⟨hx, hb, hml, hown, hts, hlk, hE, hB⟩ := hC
  unfold o_gA at hr
  split at hr
  · rename_i a rr
    obtain ⟨q_a, rst0, rfl, h_a, hR1⟩ := js_RL_c hR
    have h_a : q_a = .ref (js_ad G a) := h_a
    subst h_a
    have hR := hR1
    obtain ⟨fs, x, h1, h2, hr⟩ := jx_gA_i hr
    have ha : a < jx_nc := by
      rcases Nat.lt_or_ge a jx_nc with q | q
      · exact q
      · obtain ⟨hx9, -⟩ := hS.1.1 a _ q h1
        rcases hx9 with ⟨r9, k1, -⟩ | ⟨k1, -⟩
        · have := js_lt9 k1
          dsimp only at this; omega
        · simp only [List.mem_cons, List.not_mem_nil, or_false] at k1
          omega
    have e0 := hS.1.2.1 a ha
    rw [h1] at e0
    rcases hE.2.2.2.1 a _ ha e0.symm with ⟨k1, -⟩ | ⟨-, -, -, hT⟩
    · dsimp only at k1; omega
    · obtain ⟨cf, kf, i9, f, cell, g1, g2, g3, g4, g5, -⟩ := (hT k _ h2).kept hS.2.2.1
      exact va_Wgetf hx hb hown (va_Nw.use rfl (hE.1 _ hw rfl)) g1 g2 g3 g4 (v := js_v G (.ref x)) g5 rfl rfl hd (kk _ _ _ _ _ _ _ _ hr hS hL ⟨rfl, hR⟩ (jx_le_r _))
  · cases hr
theorem st_pIown {m pc : Nat} {t k idx : Nat} {C : String} {T : u_T} {N : Nat} {ty0 : Nat → FieldType} (hcl : js_cls t C T N ty0) (hk : k < N) (hfin : (T k).2.2.2 = false) (hw : Jvm.Cond.fieldLink (js_y m).cls idx (T k).1 (T k).2.1 (T k).2.2.1 ∈ js_ws) (hdd : parseFieldDescriptor (T k).2.2.1 = some .int) (hd : decode (js_b m) pc = .ok (.putfield idx, 3)) : js_St m pc (o_pI t k (pc + 3)) := by
  intro p l e R s mth args below meth c Q G H locs ls st h rls rst C K r c0 s0 hC hS hL hR hc hs hRc hRs hRf hRl hm hr kk
  obtain ⟨hx, hb, hml, hown, hts, hlk, hE, hB⟩ := hC
  unfold o_pI at hr
  split at hr
  · rename_i x a rr
    obtain ⟨q_x, rst0, rfl, h_x, hR1⟩ := js_RL_c hR
    have h_x : q_x = .int x := h_x
    subst h_x
    obtain ⟨q_a, rst1, rfl, h_a, hR2⟩ := js_RL_c hR1
    have h_a : q_a = .ref (js_ad G a) := h_a
    subst h_a
    have hR := hR2
    obtain ⟨fs, h1, h2, h4, h3⟩ := jx_pt_i hr
    exact js_put_own hx hb hown hts hE hS hcl hk hfin hw h2 h1 hdd (v := .int x) rfl rfl hd (fun H1 locs1 hS1 => kk _ _ _ (jx_set h a _) _ _ _ _ h3 hS1 hL hR (jx_le_r h))
  · cases hr
theorem st_pZown {m pc : Nat} {t k idx : Nat} {C : String} {T : u_T} {N : Nat} {ty0 : Nat → FieldType} (hcl : js_cls t C T N ty0) (hk : k < N) (hfin : (T k).2.2.2 = false) (hw : Jvm.Cond.fieldLink (js_y m).cls idx (T k).1 (T k).2.1 (T k).2.2.1 ∈ js_ws) (hdd : parseFieldDescriptor (T k).2.2.1 = some .boolean) (hd : decode (js_b m) pc = .ok (.putfield idx, 3)) : js_St m pc (o_pZ t k (pc + 3)) := by
  intro p l e R s mth args below meth c Q G H locs ls st h rls rst C K r c0 s0 hC hS hL hR hc hs hRc hRs hRf hRl hm hr kk
  obtain ⟨hx, hb, hml, hown, hts, hlk, hE, hB⟩ := hC
  unfold o_pZ at hr
  split at hr
  · rename_i x a rr
    obtain ⟨q_x, rst0, rfl, h_x, hR1⟩ := js_RL_c hR
    have h_x : q_x = .int x := h_x
    subst h_x
    obtain ⟨q_a, rst1, rfl, h_a, hR2⟩ := js_RL_c hR1
    have h_a : q_a = .ref (js_ad G a) := h_a
    subst h_a
    have hR := hR2
    split at hr
    · rename_i hz
      obtain ⟨fs, h1, h2, h4, h3⟩ := jx_pt_i hr
      exact js_put_own hx hb hown hts hE hS hcl hk hfin hw h2 h1 hdd (v := .int x) (by rcases hz with rfl | rfl <;> rfl) (by rcases hz with rfl | rfl <;> rfl) hd (fun H1 locs1 hS1 => kk _ _ _ (jx_set h a _) _ _ _ _ h3 hS1 hL hR (jx_le_r h))
    · cases hr
  · cases hr
theorem st_pCown {m pc : Nat} {t k idx : Nat} {C : String} {T : u_T} {N : Nat} {ty0 : Nat → FieldType} (hcl : js_cls t C T N ty0) (hk : k < N) (hfin : (T k).2.2.2 = false) (hw : Jvm.Cond.fieldLink (js_y m).cls idx (T k).1 (T k).2.1 (T k).2.2.1 ∈ js_ws) (hdd : parseFieldDescriptor (T k).2.2.1 = some .char) (hd : decode (js_b m) pc = .ok (.putfield idx, 3)) : js_St m pc (o_pC t k (pc + 3)) := by
  intro p l e R s mth args below meth c Q G H locs ls st h rls rst C K r c0 s0 hC hS hL hR hc hs hRc hRs hRf hRl hm hr kk
  obtain ⟨hx, hb, hml, hown, hts, hlk, hE, hB⟩ := hC
  unfold o_pC at hr
  split at hr
  · rename_i x a rr
    obtain ⟨q_x, rst0, rfl, h_x, hR1⟩ := js_RL_c hR
    have h_x : q_x = .int x := h_x
    subst h_x
    obtain ⟨q_a, rst1, rfl, h_a, hR2⟩ := js_RL_c hR1
    have h_a : q_a = .ref (js_ad G a) := h_a
    subst h_a
    have hR := hR2
    split at hr
    · rename_i hz
      obtain ⟨fs, h1, h2, h4, h3⟩ := jx_pt_i hr
      obtain ⟨q9, hq9, rfl⟩ := js_ch hz
      exact js_put_own hx hb hown hts hE hS hcl hk hfin hw h2 h1 hdd (v := .int (nI q9)) (pk_charN hq9).1 (pk_charN hq9).2 hd (fun H1 locs1 hS1 => kk _ _ _ (jx_set h a _) _ _ _ _ h3 hS1 hL hR2 (jx_le_r h))
    · cases hr
  · cases hr
theorem st_pBown {m pc : Nat} {t k idx : Nat} {C : String} {T : u_T} {N : Nat} {ty0 : Nat → FieldType} (hcl : js_cls t C T N ty0) (hk : k < N) (hfin : (T k).2.2.2 = false) (hw : Jvm.Cond.fieldLink (js_y m).cls idx (T k).1 (T k).2.1 (T k).2.2.1 ∈ js_ws) (hdd : parseFieldDescriptor (T k).2.2.1 = some .byte) (hd : decode (js_b m) pc = .ok (.putfield idx, 3)) : js_St m pc (o_pB t k (pc + 3)) := by
  intro p l e R s mth args below meth c Q G H locs ls st h rls rst C K r c0 s0 hC hS hL hR hc hs hRc hRs hRf hRl hm hr kk
  obtain ⟨hx, hb, hml, hown, hts, hlk, hE, hB⟩ := hC
  unfold o_pB at hr
  split at hr
  · rename_i x a rr
    obtain ⟨q_x, rst0, rfl, h_x, hR1⟩ := js_RL_c hR
    have h_x : q_x = .int x := h_x
    subst h_x
    obtain ⟨q_a, rst1, rfl, h_a, hR2⟩ := js_RL_c hR1
    have h_a : q_a = .ref (js_ad G a) := h_a
    subst h_a
    have hR := hR2
    split at hr
    · rename_i hz
      obtain ⟨fs, h1, h2, h4, h3⟩ := jx_pt_i hr
      obtain ⟨q9, hq9, rfl⟩ := js_by hz
      exact js_put_own hx hb hown hts hE hS hcl hk hfin hw h2 h1 hdd (v := .int (nI q9)) (congrArg Value.int (fa_bs hq9)) (fa_bf _ hq9) hd (fun H1 locs1 hS1 => kk _ _ _ (jx_set h a _) _ _ _ _ h3 hS1 hL hR2 (jx_le_r h))
    · cases hr
  · cases hr
theorem st_pAown {m pc : Nat} {t k idx : Nat} {C : String} {T : u_T} {N : Nat} {ty0 : Nat → FieldType} (hcl : js_cls t C T N ty0) (hk : k < N) {tv : Nat} (hfin : (T k).2.2.2 = false) (hw : Jvm.Cond.fieldLink (js_y m).cls idx (T k).1 (T k).2.1 (T k).2.2.1 ∈ js_ws) {rt : FieldType} (hrt : (∃ n, rt = .object n) ∨ ∃ t, rt = .array t) (hdd : parseFieldDescriptor (T k).2.2.1 = some rt) (hd : decode (js_b m) pc = .ok (.putfield idx, 3)) : js_St m pc (o_pA t k tv (pc + 3)) := by
  intro p l e R s mth args below meth c Q G H locs ls st h rls rst C K r c0 s0 hC hS hL hR hc hs hRc hRs hRf hRl hm hr kk
  obtain ⟨hx, hb, hml, hown, hts, hlk, hE, hB⟩ := hC
  unfold o_pA at hr
  split at hr
  · rename_i x a rr
    obtain ⟨q_x, rst0, rfl, h_x, hR1⟩ := js_RL_c hR
    have h_x : q_x = .ref (js_ad G x) := h_x
    subst h_x
    obtain ⟨q_a, rst1, rfl, h_a, hR2⟩ := js_RL_c hR1
    have h_a : q_a = .ref (js_ad G a) := h_a
    subst h_a
    have hR := hR2
    obtain ⟨us, h9, hq⟩ := jx_is_i hr
    obtain ⟨fs, h1, h2, h4, h3⟩ := jx_pt_i hq
    exact js_put_own hx hb hown hts hE hS hcl hk hfin hw h2 h1 hdd (v := .ref x) (by rcases hrt with ⟨n, rfl⟩ | ⟨n, rfl⟩ <;> rfl) (by rcases hrt with ⟨n, rfl⟩ | ⟨n, rfl⟩ <;> rfl) hd (fun H1 locs1 hS1 => kk _ _ _ (jx_set h a _) _ _ _ _ h3 hS1 hL hR (jx_le_r h))
  · cases hr
theorem st_pInst {m pc : Nat} {t k idx : Nat} {C : String} {T : u_T} {N : Nat} {ty0 : Nat → FieldType} (hcl : js_cls t C T N ty0) (hk : k < N) {host : String} (hfin : (T k).2.2.2 = false) (hw : Jvm.Cond.fieldLinkNest (js_y m).cls idx (T k).1 (T k).2.1 (T k).2.2.1 host ∈ lw_tbl) (hdd : parseFieldDescriptor (T k).2.2.1 = some .int) (hd : decode (js_b m) pc = .ok (.putfield idx, 3)) : js_St m pc (o_pI t k (pc + 3)) := by
  intro p l e R s mth args below meth c Q G H locs ls st h rls rst C K r c0 s0 hC hS hL hR hc hs hRc hRs hRf hRl hm hr kk
  obtain ⟨hx, hb, hml, hown, hts, hlk, hE, hB⟩ := hC
  unfold o_pI at hr
  split at hr
  · rename_i x a rr
    obtain ⟨q_x, rst0, rfl, h_x, hR1⟩ := js_RL_c hR
    have h_x : q_x = .int x := h_x
    subst h_x
    obtain ⟨q_a, rst1, rfl, h_a, hR2⟩ := js_RL_c hR1
    have h_a : q_a = .ref (js_ad G a) := h_a
    subst h_a
    have hR := hR2
    obtain ⟨fs, h1, h2, h4, h3⟩ := jx_pt_i hr
    exact js_put_nst hx hb hown hts hE hS hcl hk hfin hw h2 h1 hdd (v := .int x) rfl rfl hd (fun H1 locs1 hS1 => kk _ _ _ (jx_set h a _) _ _ _ _ h3 hS1 hL hR (jx_le_r h))
  · cases hr
theorem st_pZnst {m pc : Nat} {t k idx : Nat} {C : String} {T : u_T} {N : Nat} {ty0 : Nat → FieldType} (hcl : js_cls t C T N ty0) (hk : k < N) {host : String} (hfin : (T k).2.2.2 = false) (hw : Jvm.Cond.fieldLinkNest (js_y m).cls idx (T k).1 (T k).2.1 (T k).2.2.1 host ∈ lw_tbl) (hdd : parseFieldDescriptor (T k).2.2.1 = some .boolean) (hd : decode (js_b m) pc = .ok (.putfield idx, 3)) : js_St m pc (o_pZ t k (pc + 3)) := by
  intro p l e R s mth args below meth c Q G H locs ls st h rls rst C K r c0 s0 hC hS hL hR hc hs hRc hRs hRf hRl hm hr kk
  obtain ⟨hx, hb, hml, hown, hts, hlk, hE, hB⟩ := hC
  unfold o_pZ at hr
  split at hr
  · rename_i x a rr
    obtain ⟨q_x, rst0, rfl, h_x, hR1⟩ := js_RL_c hR
    have h_x : q_x = .int x := h_x
    subst h_x
    obtain ⟨q_a, rst1, rfl, h_a, hR2⟩ := js_RL_c hR1
    have h_a : q_a = .ref (js_ad G a) := h_a
    subst h_a
    have hR := hR2
    split at hr
    · rename_i hz
      obtain ⟨fs, h1, h2, h4, h3⟩ := jx_pt_i hr
      exact js_put_nst hx hb hown hts hE hS hcl hk hfin hw h2 h1 hdd (v := .int x) (by rcases hz with rfl | rfl <;> rfl) (by rcases hz with rfl | rfl <;> rfl) hd (fun H1 locs1 hS1 => kk _ _ _ (jx_set h a _) _ _ _ _ h3 hS1 hL hR (jx_le_r h))
    · cases hr
  · cases hr
theorem st_pCnst {m pc : Nat} {t k idx : Nat} {C : String} {T : u_T} {N : Nat} {ty0 : Nat → FieldType} (hcl : js_cls t C T N ty0) (hk : k < N) {host : String} (hfin : (T k).2.2.2 = false) (hw : Jvm.Cond.fieldLinkNest (js_y m).cls idx (T k).1 (T k).2.1 (T k).2.2.1 host ∈ lw_tbl) (hdd : parseFieldDescriptor (T k).2.2.1 = some .char) (hd : decode (js_b m) pc = .ok (.putfield idx, 3)) : js_St m pc (o_pC t k (pc + 3)) := by
  intro p l e R s mth args below meth c Q G H locs ls st h rls rst C K r c0 s0 hC hS hL hR hc hs hRc hRs hRf hRl hm hr kk
  obtain ⟨hx, hb, hml, hown, hts, hlk, hE, hB⟩ := hC
  unfold o_pC at hr
  split at hr
  · rename_i x a rr
    obtain ⟨q_x, rst0, rfl, h_x, hR1⟩ := js_RL_c hR
    have h_x : q_x = .int x := h_x
    subst h_x
    obtain ⟨q_a, rst1, rfl, h_a, hR2⟩ := js_RL_c hR1
    have h_a : q_a = .ref (js_ad G a) := h_a
    subst h_a
    have hR := hR2
    split at hr
    · rename_i hz
      obtain ⟨fs, h1, h2, h4, h3⟩ := jx_pt_i hr
      obtain ⟨q9, hq9, rfl⟩ := js_ch hz
      exact js_put_nst hx hb hown hts hE hS hcl hk hfin hw h2 h1 hdd (v := .int (nI q9)) (pk_charN hq9).1 (pk_charN hq9).2 hd (fun H1 locs1 hS1 => kk _ _ _ (jx_set h a _) _ _ _ _ h3 hS1 hL hR2 (jx_le_r h))
    · cases hr
  · cases hr
theorem st_pAnst {m pc : Nat} {t k idx : Nat} {C : String} {T : u_T} {N : Nat} {ty0 : Nat → FieldType} (hcl : js_cls t C T N ty0) (hk : k < N) {tv : Nat} {host : String} (hfin : (T k).2.2.2 = false) (hw : Jvm.Cond.fieldLinkNest (js_y m).cls idx (T k).1 (T k).2.1 (T k).2.2.1 host ∈ lw_tbl) {rt : FieldType} (hrt : (∃ n, rt = .object n) ∨ ∃ t, rt = .array t) (hdd : parseFieldDescriptor (T k).2.2.1 = some rt) (hd : decode (js_b m) pc = .ok (.putfield idx, 3)) : js_St m pc (o_pA t k tv (pc + 3)) := by
  intro p l e R s mth args below meth c Q G H locs ls st h rls rst C K r c0 s0 hC hS hL hR hc hs hRc hRs hRf hRl hm hr kk
  obtain ⟨hx, hb, hml, hown, hts, hlk, hE, hB⟩ := hC
  unfold o_pA at hr
  split at hr
  · rename_i x a rr
    obtain ⟨q_x, rst0, rfl, h_x, hR1⟩ := js_RL_c hR
    have h_x : q_x = .ref (js_ad G x) := h_x
    subst h_x
    obtain ⟨q_a, rst1, rfl, h_a, hR2⟩ := js_RL_c hR1
    have h_a : q_a = .ref (js_ad G a) := h_a
    subst h_a
    have hR := hR2
    obtain ⟨us, h9, hq⟩ := jx_is_i hr
    obtain ⟨fs, h1, h2, h4, h3⟩ := jx_pt_i hq
    exact js_put_nst hx hb hown hts hE hS hcl hk hfin hw h2 h1 hdd (v := .ref x) (by rcases hrt with ⟨n, rfl⟩ | ⟨n, rfl⟩ <;> rfl) (by rcases hrt with ⟨n, rfl⟩ | ⟨n, rfl⟩ <;> rfl) hd (fun H1 locs1 hS1 => kk _ _ _ (jx_set h a _) _ _ _ _ h3 hS1 hL hR (jx_le_r h))
  · cases hr

def js_Si (m pc : Nat) (op : jx_Op) : Prop :=
  ∀ (p : Program) (l : Launch) (e : Env) (R : Room) (s : State) (mth : MethodId) (args : Array Value) (below : List Frame) (meth : Method) (c : Code) (Q : State → Prop) (G : js_G) (H : Heap) (locs : List Loc) (ls st : List Value) (h : jx_H) (rls : Array Slot) (rst : List Value) (C : jx_C) (K : jx_K) (r : jx_O) (c0 s0 : Nat),
    meth.name = (js_y m).name → js_Cx G m p l s mth args meth c → js_S G s H locs h → js_L G (jx_M m) ls rls → js_RL G st rst → c0 ≤ h.2.2.1 → s0 ≤ h.2.2.2 → r.2.2.2.1 - c0 ≤ R.cells → r.2.2.2.2 - s0 ≤ R.slots → 1 ≤ R.frames → 40 ≤ R.locals →
    (∀ pc ls st h, K pc ls st h = some r → jx_le h r.2) → op C ls st h K = some r →
    (∀ (pc' : Nat) (ls' st' : List Value) (h' : jx_H) (H' : Heap) (locs' : List Loc) (rls' : Array Slot) (rst' : List Value), K pc' ls' st' h' = some r → js_S G s H' locs' h' → js_L G (jx_M m) ls' rls' → js_RL G st' rst' → jx_le h h' → W p l e R s mth args below meth c H' locs' (h'.2.2.1 - c0) (h'.2.2.2 - s0) Q (F0 mth pc' rls' rst')) →
    W p l e R s mth args below meth c H locs (h.2.2.1 - c0) (h.2.2.2 - s0) Q (F0 mth pc rls rst)
theorem js_St.i {m pc : Nat} {op : jx_Op} (h : js_St m pc op) : js_Si m pc op := fun p l e R s mth args below meth c Q G H locs ls st h' rls rst C K r c0 s0 _ => h p l e R s mth args below meth c Q G H locs ls st h' rls rst C K r c0 s0
theorem st_pAfin {m pc : Nat} {t k idx : Nat} {C : String} {T : u_T} {N : Nat} {ty0 : Nat → FieldType} (hcl : js_cls t C T N ty0) (hk : k < N) {tv : Nat} (hfin : (T k).2.2.2 = true) (hdecl : (T k).1 = (js_y m).cls) (hni : (js_y m).name = "<init>") (hw : Jvm.Cond.fieldLink (js_y m).cls idx (T k).1 (T k).2.1 (T k).2.2.1 ∈ js_ws) {rt : FieldType} (hrt : (∃ n, rt = .object n) ∨ ∃ t, rt = .array t) (hdd : parseFieldDescriptor (T k).2.2.1 = some rt) (hd : decode (js_b m) pc = .ok (.putfield idx, 3)) : js_Si m pc (o_pA t k tv (pc + 3)) := by
  intro p l e R s mth args below meth c Q G H locs ls st h rls rst C K r c0 s0 hmn hC hS hL hR hc hs hRc hRs hRf hRl hm hr kk
  obtain ⟨hx, hb, hml, hown, hts, hlk, hE, hB⟩ := hC
  unfold o_pA at hr
  split at hr
  · rename_i x a rr
    obtain ⟨q_x, rst0, rfl, h_x, hR1⟩ := js_RL_c hR
    have h_x : q_x = .ref (js_ad G x) := h_x
    subst h_x
    obtain ⟨q_a, rst1, rfl, h_a, hR2⟩ := js_RL_c hR1
    have h_a : q_a = .ref (js_ad G a) := h_a
    subst h_a
    have hR := hR2
    obtain ⟨us, h9, hq⟩ := jx_is_i hr
    obtain ⟨fs, h1, h2, h4, h3⟩ := jx_pt_i hq
    exact js_put_fin hx hb hown hts hE hS hcl hk hfin (hmn.trans hni) hdecl hw h2 h1 hdd (v := .ref x) (by rcases hrt with ⟨n, rfl⟩ | ⟨n, rfl⟩ <;> rfl) (by rcases hrt with ⟨n, rfl⟩ | ⟨n, rfl⟩ <;> rfl) hd (fun H1 locs1 hS1 => kk _ _ _ (jx_set h a _) _ _ _ _ h3 hS1 hL hR (jx_le_r h))
  · cases hr
theorem st_pBfin {m pc : Nat} {t k idx : Nat} {C : String} {T : u_T} {N : Nat} {ty0 : Nat → FieldType} (hcl : js_cls t C T N ty0) (hk : k < N) (hfin : (T k).2.2.2 = true) (hdecl : (T k).1 = (js_y m).cls) (hni : (js_y m).name = "<init>") (hw : Jvm.Cond.fieldLink (js_y m).cls idx (T k).1 (T k).2.1 (T k).2.2.1 ∈ js_ws) (hdd : parseFieldDescriptor (T k).2.2.1 = some .byte) (hd : decode (js_b m) pc = .ok (.putfield idx, 3)) : js_Si m pc (o_pB t k (pc + 3)) := by
  intro p l e R s mth args below meth c Q G H locs ls st h rls rst C K r c0 s0 hmn hC hS hL hR hc hs hRc hRs hRf hRl hm hr kk
  obtain ⟨hx, hb, hml, hown, hts, hlk, hE, hB⟩ := hC
  unfold o_pB at hr
  split at hr
  · rename_i x a rr
    obtain ⟨q_x, rst0, rfl, h_x, hR1⟩ := js_RL_c hR
    have h_x : q_x = .int x := h_x
    subst h_x
    obtain ⟨q_a, rst1, rfl, h_a, hR2⟩ := js_RL_c hR1
    have h_a : q_a = .ref (js_ad G a) := h_a
    subst h_a
    have hR := hR2
    split at hr
    · rename_i hz
      obtain ⟨fs, h1, h2, h4, h3⟩ := jx_pt_i hr
      obtain ⟨q9, hq9, rfl⟩ := js_by hz
      exact js_put_fin hx hb hown hts hE hS hcl hk hfin (hmn.trans hni) hdecl hw h2 h1 hdd (v := .int (nI q9)) (congrArg Value.int (fa_bs hq9)) (fa_bf _ hq9) hd (fun H1 locs1 hS1 => kk _ _ _ (jx_set h a _) _ _ _ _ h3 hS1 hL hR2 (jx_le_r h))
    · cases hr
  · cases hr
theorem st_lI {m pc : Nat}  (hd : decode (js_b m) pc = .ok (.iaload, 1)) : js_St m pc (o_lI 100 (pc + 1)) := by
  intro p l e R s mth args below meth c Q G H locs ls st h rls rst C K r c0 s0 hC hS hL hR hc hs hRc hRs hRf hRl hm hr kk
  obtain ⟨hx, hb, hml, hown, hts, hlk, hE, hB⟩ := hC
  unfold o_lI at hr
  split at hr
  · rename_i i a rr
    obtain ⟨q_i, rst0, rfl, h_i, hR1⟩ := js_RL_c hR
    have h_i : q_i = .int i := h_i
    subst h_i
    obtain ⟨q_a, rst1, rfl, h_a, hR2⟩ := js_RL_c hR1
    have h_a : q_a = .ref (js_ad G a) := h_a
    subst h_a
    have hR := hR2
    obtain ⟨vs, x, h1, h0, h2, hr⟩ := jx_lI_i hr
    obtain ⟨cell, c1, c2, c3, c4, c5, c6, -⟩ := js_ar hE hS (Nat.le_of_ble_eq_true rfl) h1
    exact W.iald hx hb c1 c2 c3 (js_in h0 (List.getElem?_eq_some_iff.mp h2).1 c5) (v := .int x) (c6 _ _ h2) rfl rfl hd (kk _ _ _ _ _ _ _ _ hr hS hL ⟨rfl, hR⟩ (jx_le_r _))
  · cases hr
theorem st_lIc {m pc : Nat}  (hd : decode (js_b m) pc = .ok (.caload, 1)) : js_St m pc (o_lI 101 (pc + 1)) := by
  intro p l e R s mth args below meth c Q G H locs ls st h rls rst C K r c0 s0 hC hS hL hR hc hs hRc hRs hRf hRl hm hr kk
  obtain ⟨hx, hb, hml, hown, hts, hlk, hE, hB⟩ := hC
  unfold o_lI at hr
  split at hr
  · rename_i i a rr
    obtain ⟨q_i, rst0, rfl, h_i, hR1⟩ := js_RL_c hR
    have h_i : q_i = .int i := h_i
    subst h_i
    obtain ⟨q_a, rst1, rfl, h_a, hR2⟩ := js_RL_c hR1
    have h_a : q_a = .ref (js_ad G a) := h_a
    subst h_a
    have hR := hR2
    obtain ⟨vs, x, h1, h0, h2, hr⟩ := jx_lI_i hr
    obtain ⟨cell, c1, c2, c3, c4, c5, c6, -⟩ := js_ar hE hS (Nat.le_of_ble_eq_true rfl) h1
    exact W.cald hx hb c1 c2 c3 (js_in h0 (List.getElem?_eq_some_iff.mp h2).1 c5) (v := .int x) (c6 _ _ h2) rfl rfl hd (kk _ _ _ _ _ _ _ _ hr hS hL ⟨rfl, hR⟩ (jx_le_r _))
  · cases hr
theorem st_lIb {m pc : Nat}  (hd : decode (js_b m) pc = .ok (.baload, 1)) : js_St m pc (o_lI 104 (pc + 1)) := by
  intro p l e R s mth args below meth c Q G H locs ls st h rls rst C K r c0 s0 hC hS hL hR hc hs hRc hRs hRf hRl hm hr kk
  obtain ⟨hx, hb, hml, hown, hts, hlk, hE, hB⟩ := hC
  unfold o_lI at hr
  split at hr
  · rename_i i a rr
    obtain ⟨q_i, rst0, rfl, h_i, hR1⟩ := js_RL_c hR
    have h_i : q_i = .int i := h_i
    subst h_i
    obtain ⟨q_a, rst1, rfl, h_a, hR2⟩ := js_RL_c hR1
    have h_a : q_a = .ref (js_ad G a) := h_a
    subst h_a
    have hR := hR2
    obtain ⟨vs, x, h1, h0, h2, hr⟩ := jx_lI_i hr
    obtain ⟨cell, c1, c2, c3, c4, c5, c6, -⟩ := js_ar hE hS (Nat.le_of_ble_eq_true rfl) h1
    exact W.bald hx hb c1 c2 c3 (js_in h0 (List.getElem?_eq_some_iff.mp h2).1 c5) (v := .int x) (c6 _ _ h2) rfl rfl hd (kk _ _ _ _ _ _ _ _ hr hS hL ⟨rfl, hR⟩ (jx_le_r _))
  · cases hr
theorem st_lIz {m pc : Nat}  (hd : decode (js_b m) pc = .ok (.baload, 1)) : js_St m pc (o_lI 105 (pc + 1)) := by
  intro p l e R s mth args below meth c Q G H locs ls st h rls rst C K r c0 s0 hC hS hL hR hc hs hRc hRs hRf hRl hm hr kk
  obtain ⟨hx, hb, hml, hown, hts, hlk, hE, hB⟩ := hC
  unfold o_lI at hr
  split at hr
  · rename_i i a rr
    obtain ⟨q_i, rst0, rfl, h_i, hR1⟩ := js_RL_c hR
    have h_i : q_i = .int i := h_i
    subst h_i
    obtain ⟨q_a, rst1, rfl, h_a, hR2⟩ := js_RL_c hR1
    have h_a : q_a = .ref (js_ad G a) := h_a
    subst h_a
    have hR := hR2
    obtain ⟨vs, x, h1, h0, h2, hr⟩ := jx_lI_i hr
    obtain ⟨cell, c1, c2, c3, c4, c5, c6, -⟩ := js_ar hE hS (Nat.le_of_ble_eq_true rfl) h1
    exact W.zald hx hb c1 c2 c3 (js_in h0 (List.getElem?_eq_some_iff.mp h2).1 c5) (v := .int x) (c6 _ _ h2) rfl rfl hd (kk _ _ _ _ _ _ _ _ hr hS hL ⟨rfl, hR⟩ (jx_le_r _))
  · cases hr
theorem st_lL {m pc : Nat}  (hd : decode (js_b m) pc = .ok (.laload, 1)) : js_St m pc (o_lL 102 (pc + 1)) := by
  intro p l e R s mth args below meth c Q G H locs ls st h rls rst C K r c0 s0 hC hS hL hR hc hs hRc hRs hRf hRl hm hr kk
  obtain ⟨hx, hb, hml, hown, hts, hlk, hE, hB⟩ := hC
  unfold o_lL at hr
  split at hr
  · rename_i i a rr
    obtain ⟨q_i, rst0, rfl, h_i, hR1⟩ := js_RL_c hR
    have h_i : q_i = .int i := h_i
    subst h_i
    obtain ⟨q_a, rst1, rfl, h_a, hR2⟩ := js_RL_c hR1
    have h_a : q_a = .ref (js_ad G a) := h_a
    subst h_a
    have hR := hR2
    obtain ⟨vs, x, h1, h0, h2, hr⟩ := jx_lL_i hr
    obtain ⟨cell, c1, c2, c3, c4, c5, c6, -⟩ := js_ar hE hS (Nat.le_of_ble_eq_true rfl) h1
    exact W.lald hx hb c1 c2 c3 (js_in h0 (List.getElem?_eq_some_iff.mp h2).1 c5) (v := .long x) (c6 _ _ h2) rfl rfl hd (kk _ _ _ _ _ _ _ _ hr hS hL ⟨rfl, hR⟩ (jx_le_r _))
  · cases hr
theorem st_lD {m pc : Nat}  (hd : decode (js_b m) pc = .ok (.daload, 1)) : js_St m pc (o_lD 103 (pc + 1)) := by
  intro p l e R s mth args below meth c Q G H locs ls st h rls rst C K r c0 s0 hC hS hL hR hc hs hRc hRs hRf hRl hm hr kk
  obtain ⟨hx, hb, hml, hown, hts, hlk, hE, hB⟩ := hC
  unfold o_lD at hr
  split at hr
  · rename_i i a rr
    obtain ⟨q_i, rst0, rfl, h_i, hR1⟩ := js_RL_c hR
    have h_i : q_i = .int i := h_i
    subst h_i
    obtain ⟨q_a, rst1, rfl, h_a, hR2⟩ := js_RL_c hR1
    have h_a : q_a = .ref (js_ad G a) := h_a
    subst h_a
    have hR := hR2
    obtain ⟨vs, x, h1, h0, h2, hr⟩ := jx_lD_i hr
    obtain ⟨cell, c1, c2, c3, c4, c5, c6, -⟩ := js_ar hE hS (Nat.le_of_ble_eq_true rfl) h1
    exact W.dald hx hb c1 c2 c3 (js_in h0 (List.getElem?_eq_some_iff.mp h2).1 c5) (v := .double x) (c6 _ _ h2) rfl rfl hd (kk _ _ _ _ _ _ _ _ hr hS hL ⟨rfl, hR⟩ (jx_le_r _))
  · cases hr
theorem st_lA {m pc : Nat} {t : Nat} (ht : 100 ≤ t) (hty : (js_ty t).isReference = true) (hd : decode (js_b m) pc = .ok (.aaload, 1)) : js_St m pc (o_lA t (pc + 1)) := by
  intro p l e R s mth args below meth c Q G H locs ls st h rls rst C K r c0 s0 hC hS hL hR hc hs hRc hRs hRf hRl hm hr kk
  obtain ⟨hx, hb, hml, hown, hts, hlk, hE, hB⟩ := hC
  unfold o_lA at hr
  split at hr
  · rename_i i a rr
    obtain ⟨q_i, rst0, rfl, h_i, hR1⟩ := js_RL_c hR
    have h_i : q_i = .int i := h_i
    subst h_i
    obtain ⟨q_a, rst1, rfl, h_a, hR2⟩ := js_RL_c hR1
    have h_a : q_a = .ref (js_ad G a) := h_a
    subst h_a
    have hR := hR2
    obtain ⟨vs, x, h1, h0, h2, hr⟩ := jx_lA_i hr
    obtain ⟨cell, c1, c2, c3, c4, c5, c6, -⟩ := js_ar hE hS ht h1
    exact W.aald hx hb c1 c2 hty c3 (js_in h0 (List.getElem?_eq_some_iff.mp h2).1 c5) (v := js_v G (.ref x)) (c6 _ _ h2) rfl rfl hd (kk _ _ _ _ _ _ _ _ hr hS hL ⟨rfl, hR⟩ (jx_le_r _))
  · cases hr
theorem st_lN {m pc : Nat} {t : Nat} (ht : 100 ≤ t) (hty : (js_ty t).isReference = true) (hd : decode (js_b m) pc = .ok (.aaload, 1)) : js_St m pc (o_lN t (pc + 1)) := by
  intro p l e R s mth args below meth c Q G H locs ls st h rls rst C K r c0 s0 hC hS hL hR hc hs hRc hRs hRf hRl hm hr kk
  obtain ⟨hx, hb, hml, hown, hts, hlk, hE, hB⟩ := hC
  unfold o_lN at hr
  split at hr
  · rename_i i a rr
    obtain ⟨q_i, rst0, rfl, h_i, hR1⟩ := js_RL_c hR
    have h_i : q_i = .int i := h_i
    subst h_i
    obtain ⟨q_a, rst1, rfl, h_a, hR2⟩ := js_RL_c hR1
    have h_a : q_a = .ref (js_ad G a) := h_a
    subst h_a
    have hR := hR2
    obtain ⟨vs, h1, h0, ⟨x, h2, hr⟩ | ⟨h2, hr⟩⟩ := jx_lN_i hr
    · obtain ⟨cell, c1, c2, c3, c4, c5, c6, -⟩ := js_ar hE hS ht h1
      exact W.aald hx hb c1 c2 hty c3 (js_in h0 (List.getElem?_eq_some_iff.mp h2).1 c5) (v := js_v G (.ref x)) (c6 _ _ h2) rfl rfl hd (kk _ _ _ _ _ _ _ _ hr hS hL ⟨rfl, hR⟩ (jx_le_r _))
    · obtain ⟨cell, c1, c2, c3, c4, c5, c6, -⟩ := js_ar hE hS ht h1
      exact W.aald hx hb c1 c2 hty c3 (js_in h0 (List.getElem?_eq_some_iff.mp h2).1 c5) (v := js_v G (.null)) (c6 _ _ h2) rfl rfl hd (kk _ _ _ _ _ _ _ _ hr hS hL ⟨rfl, hR⟩ (jx_le_r _))
  · cases hr
theorem st_len {m pc : Nat}  (hd : decode (js_b m) pc = .ok (.arraylength, 1)) : js_St m pc (o_len (pc + 1)) := by
  intro p l e R s mth args below meth c Q G H locs ls st h rls rst C K r c0 s0 hC hS hL hR hc hs hRc hRs hRf hRl hm hr kk
  obtain ⟨hx, hb, hml, hown, hts, hlk, hE, hB⟩ := hC
  unfold o_len at hr
  split at hr
  · rename_i a rr
    obtain ⟨q_a, rst0, rfl, h_a, hR1⟩ := js_RL_c hR
    have h_a : q_a = .ref (js_ad G a) := h_a
    subst h_a
    have hR := hR1
    obtain ⟨t, vs, h1, h0, hr⟩ := jx_sz_i hr
    obtain ⟨cell, c1, c2, c3, c4, c5, c6, -⟩ := js_ar hE hS h0 h1
    exact W.alen hx hb c1 c2 c4 rfl rfl hd (kk _ _ _ _ _ _ _ _ hr hS hL ⟨rfl, hR⟩ (jx_le_r _))
  · cases hr
theorem st_sI {m pc : Nat}  (hd : decode (js_b m) pc = .ok (.iastore, 1)) : js_St m pc (o_sI 100 (pc + 1)) := by
  intro p l e R s mth args below meth c Q G H locs ls st h rls rst C K r c0 s0 hC hS hL hR hc hs hRc hRs hRf hRl hm hr kk
  obtain ⟨hx, hb, hml, hown, hts, hlk, hE, hB⟩ := hC
  unfold o_sI at hr
  split at hr
  · rename_i x i a rr
    obtain ⟨q_x, rst0, rfl, h_x, hR1⟩ := js_RL_c hR
    have h_x : q_x = .int x := h_x
    subst h_x
    obtain ⟨q_i, rst1, rfl, h_i, hR2⟩ := js_RL_c hR1
    have h_i : q_i = .int i := h_i
    subst h_i
    obtain ⟨q_a, rst2, rfl, h_a, hR3⟩ := js_RL_c hR2
    have h_a : q_a = .ref (js_ad G a) := h_a
    subst h_a
    have hR := hR3
    obtain ⟨vs, h1, h0, h2, h4, h3⟩ := jx_st_i hr
    obtain ⟨cell, c1, c2, c3, c4, c5, c6, c7⟩ := js_ar hE hS (Nat.le_of_ble_eq_true rfl) h1
    obtain ⟨ht, rfl⟩ := c7 h2
    refine W.iast hx hb c1 c2 c3 (js_in h0 h4 c5) rfl rfl hd (fun H' e1 e2 e3 => ?_)
    exact kk _ _ _ (jx_set h a _) _ _ _ _ h3 (js_S_upd hS h2 h1 e2 e3 (js_X_st ht e1 (fun z => absurd z (by decide)))) hL hR (jx_le_r h)
  · cases hr
theorem st_sB {m pc : Nat}  (hd : decode (js_b m) pc = .ok (.bastore, 1)) : js_St m pc (o_sB 104 (pc + 1)) := by
  intro p l e R s mth args below meth c Q G H locs ls st h rls rst C K r c0 s0 hC hS hL hR hc hs hRc hRs hRf hRl hm hr kk
  obtain ⟨hx, hb, hml, hown, hts, hlk, hE, hB⟩ := hC
  unfold o_sB at hr
  split at hr
  · rename_i x i a rr
    obtain ⟨q_x, rst0, rfl, h_x, hR1⟩ := js_RL_c hR
    have h_x : q_x = .int x := h_x
    subst h_x
    obtain ⟨q_i, rst1, rfl, h_i, hR2⟩ := js_RL_c hR1
    have h_i : q_i = .int i := h_i
    subst h_i
    obtain ⟨q_a, rst2, rfl, h_a, hR3⟩ := js_RL_c hR2
    have h_a : q_a = .ref (js_ad G a) := h_a
    subst h_a
    have hR := hR3
    obtain ⟨vs, h1, h0, h2, h4, h3⟩ := jx_st_i hr
    obtain ⟨cell, c1, c2, c3, c4, c5, c6, c7⟩ := js_ar hE hS (Nat.le_of_ble_eq_true rfl) h1
    obtain ⟨ht, rfl⟩ := c7 h2
    refine W.bast hx hb c1 c2 c3 (js_in h0 h4 c5) rfl rfl hd (fun H' e1 e2 e3 => ?_)
    exact kk _ _ _ (jx_set h a _) _ _ _ _ h3 (js_S_upd hS h2 h1 e2 e3 (js_X_st ht e1 (fun _ => ⟨js_fit hS h1, fa_nb x⟩))) hL hR (jx_le_r h)
  · cases hr
theorem st_sC {m pc : Nat}  (hd : decode (js_b m) pc = .ok (.castore, 1)) : js_St m pc (o_sC 101 (pc + 1)) := by
  intro p l e R s mth args below meth c Q G H locs ls st h rls rst C K r c0 s0 hC hS hL hR hc hs hRc hRs hRf hRl hm hr kk
  obtain ⟨hx, hb, hml, hown, hts, hlk, hE, hB⟩ := hC
  unfold o_sC at hr
  split at hr
  · rename_i x i a rr
    obtain ⟨q_x, rst0, rfl, h_x, hR1⟩ := js_RL_c hR
    have h_x : q_x = .int x := h_x
    subst h_x
    obtain ⟨q_i, rst1, rfl, h_i, hR2⟩ := js_RL_c hR1
    have h_i : q_i = .int i := h_i
    subst h_i
    obtain ⟨q_a, rst2, rfl, h_a, hR3⟩ := js_RL_c hR2
    have h_a : q_a = .ref (js_ad G a) := h_a
    subst h_a
    have hR := hR3
    obtain ⟨vs, h1, h0, h2, h4, h3⟩ := jx_st_i hr
    obtain ⟨cell, c1, c2, c3, c4, c5, c6, c7⟩ := js_ar hE hS (Nat.le_of_ble_eq_true rfl) h1
    obtain ⟨ht, rfl⟩ := c7 h2
    refine W.cast hx hb c1 c2 c3 (js_in h0 h4 c5) rfl rfl hd (fun H' e1 e2 e3 => ?_)
    exact kk _ _ _ (jx_set h a _) _ _ _ _ h3 (js_S_upd hS h2 h1 e2 e3 (js_X_st ht e1 (fun z => absurd z (by decide)))) hL hR (jx_le_r h)
  · cases hr
theorem st_sL {m pc : Nat}  (hd : decode (js_b m) pc = .ok (.lastore, 1)) : js_St m pc (o_sL 102 (pc + 1)) := by
  intro p l e R s mth args below meth c Q G H locs ls st h rls rst C K r c0 s0 hC hS hL hR hc hs hRc hRs hRf hRl hm hr kk
  obtain ⟨hx, hb, hml, hown, hts, hlk, hE, hB⟩ := hC
  unfold o_sL at hr
  split at hr
  · rename_i x i a rr
    obtain ⟨q_x, rst0, rfl, h_x, hR1⟩ := js_RL_c hR
    have h_x : q_x = .long x := h_x
    subst h_x
    obtain ⟨q_i, rst1, rfl, h_i, hR2⟩ := js_RL_c hR1
    have h_i : q_i = .int i := h_i
    subst h_i
    obtain ⟨q_a, rst2, rfl, h_a, hR3⟩ := js_RL_c hR2
    have h_a : q_a = .ref (js_ad G a) := h_a
    subst h_a
    have hR := hR3
    obtain ⟨vs, h1, h0, h2, h4, h3⟩ := jx_st_i hr
    obtain ⟨cell, c1, c2, c3, c4, c5, c6, c7⟩ := js_ar hE hS (Nat.le_of_ble_eq_true rfl) h1
    obtain ⟨ht, rfl⟩ := c7 h2
    refine W.last hx hb c1 c2 c3 (js_in h0 h4 c5) rfl rfl hd (fun H' e1 e2 e3 => ?_)
    exact kk _ _ _ (jx_set h a _) _ _ _ _ h3 (js_S_upd hS h2 h1 e2 e3 (js_X_st ht e1 (fun z => absurd z (by decide)))) hL hR (jx_le_r h)
  · cases hr
theorem st_sD {m pc : Nat}  (hd : decode (js_b m) pc = .ok (.dastore, 1)) : js_St m pc (o_sD 103 (pc + 1)) := by
  intro p l e R s mth args below meth c Q G H locs ls st h rls rst C K r c0 s0 hC hS hL hR hc hs hRc hRs hRf hRl hm hr kk
  obtain ⟨hx, hb, hml, hown, hts, hlk, hE, hB⟩ := hC
  unfold o_sD at hr
  split at hr
  · rename_i x i a rr
    obtain ⟨q_x, rst0, rfl, h_x, hR1⟩ := js_RL_c hR
    have h_x : q_x = .double x := h_x
    subst h_x
    obtain ⟨q_i, rst1, rfl, h_i, hR2⟩ := js_RL_c hR1
    have h_i : q_i = .int i := h_i
    subst h_i
    obtain ⟨q_a, rst2, rfl, h_a, hR3⟩ := js_RL_c hR2
    have h_a : q_a = .ref (js_ad G a) := h_a
    subst h_a
    have hR := hR3
    obtain ⟨vs, h1, h0, h2, h4, h3⟩ := jx_st_i hr
    obtain ⟨cell, c1, c2, c3, c4, c5, c6, c7⟩ := js_ar hE hS (Nat.le_of_ble_eq_true rfl) h1
    obtain ⟨ht, rfl⟩ := c7 h2
    refine W.dast hx hb c1 c2 c3 (js_in h0 h4 c5) rfl rfl hd (fun H' e1 e2 e3 => ?_)
    exact kk _ _ _ (jx_set h a _) _ _ _ _ h3 (js_S_upd hS h2 h1 e2 e3 (js_X_st ht e1 (fun z => absurd z (by decide)))) hL hR (jx_le_r h)
  · cases hr
theorem st_sZ {m pc : Nat}  (hd : decode (js_b m) pc = .ok (.bastore, 1)) : js_St m pc (o_sZ 105 (pc + 1)) := by
  intro p l e R s mth args below meth c Q G H locs ls st h rls rst C K r c0 s0 hC hS hL hR hc hs hRc hRs hRf hRl hm hr kk
  obtain ⟨hx, hb, hml, hown, hts, hlk, hE, hB⟩ := hC
  unfold o_sZ at hr
  split at hr
  · rename_i x i a rr
    obtain ⟨q_x, rst0, rfl, h_x, hR1⟩ := js_RL_c hR
    have h_x : q_x = .int x := h_x
    subst h_x
    obtain ⟨q_i, rst1, rfl, h_i, hR2⟩ := js_RL_c hR1
    have h_i : q_i = .int i := h_i
    subst h_i
    obtain ⟨q_a, rst2, rfl, h_a, hR3⟩ := js_RL_c hR2
    have h_a : q_a = .ref (js_ad G a) := h_a
    subst h_a
    have hR := hR3
    split at hr
    · rename_i hz
      obtain ⟨vs, h1, h0, h2, h4, h3⟩ := jx_st_i hr
      obtain ⟨cell, c1, c2, c3, c4, c5, c6, c7⟩ := js_ar hE hS (Nat.le_of_ble_eq_true rfl) h1
      obtain ⟨ht, rfl⟩ := c7 h2
      refine W.zast hx hb c1 c2 c3 (js_in h0 h4 c5) rfl rfl hd (fun H' e1 e2 e3 => ?_)
      have e4 : narrow .boolean (.int x) = .int x := by rcases hz with rfl | rfl <;> rfl
      rw [e4] at e1
      exact kk _ _ _ (jx_set h a _) _ _ _ _ h3 (js_S_upd hS h2 h1 e2 e3 (js_X_st (v := .int x) ht e1 (fun z => absurd z (by decide)))) hL hR (jx_le_r h)
    · cases hr
  · cases hr
theorem st_sA {m pc : Nat} {t tv : Nat} {q9 : vw_C} (hc9 : js_cl[tv]? = some q9) (htv : tv < 20) (ht : 100 ≤ t) (hty : js_ty t = .object q9.1) (hd : decode (js_b m) pc = .ok (.aastore, 1)) : js_St m pc (o_sA t tv (pc + 1)) := by
  intro p l e R s mth args below meth c Q G H locs ls st h rls rst C K r c0 s0 hC hS hL hR hc hs hRc hRs hRf hRl hm hr kk
  obtain ⟨hx, hb, hml, hown, hts, hlk, hE, hB⟩ := hC
  unfold o_sA at hr
  split at hr
  · rename_i x i a rr
    obtain ⟨q_x, rst0, rfl, h_x, hR1⟩ := js_RL_c hR
    have h_x : q_x = .ref (js_ad G x) := h_x
    subst h_x
    obtain ⟨q_i, rst1, rfl, h_i, hR2⟩ := js_RL_c hR1
    have h_i : q_i = .int i := h_i
    subst h_i
    obtain ⟨q_a, rst2, rfl, h_a, hR3⟩ := js_RL_c hR2
    have h_a : q_a = .ref (js_ad G a) := h_a
    subst h_a
    have hR := hR3
    obtain ⟨us, h9, hq⟩ := jx_is_i hr
    obtain ⟨vs, h1, h0, h2, h4, h3⟩ := jx_st_i hq
    obtain ⟨cell, c1, c2, c3, c4, c5, c6, c7⟩ := js_ar hE hS ht h1
    obtain ⟨ht9, rfl⟩ := c7 h2
    have hx9 : jx_nc ≤ x := by
      rcases Nat.lt_or_ge x jx_nc with q | q
      · have e := hS.1.2.1 x q
        rw [h9] at e
        rcases hE.2.2.2.1 x _ q e.symm with ⟨k1, -⟩ | ⟨k1, k2, -⟩
        · dsimp only at k1; omega
        · dsimp only at k2; omega
      · exact q
    obtain ⟨hob, -⟩ := hS.1.1 x _ hx9 h9
    rcases hob with ⟨r9, k1, k2, cv, g1, g2, g3, -⟩ | ⟨k1, -⟩
    · have hr9 : r9 = q9 := Option.some.inj (k1.symm.trans hc9)
      subst hr9
      have hcls := (hE.2.1.1 tv _ hc9).2
      have hra := (hE.2.2.1 t ht9).2
      rw [hty] at hra
      obtain ⟨kA, comp, z1, z2, z3, -⟩ := hra
      have hcomp : comp = G.1 tv := Option.some.inj (z3.symm.trans hcls.1)
      subst hcomp
      obtain ⟨kC, hkC, -⟩ := hcls.2
      refine W.aast hx hb c1 (fun q z => by cases z) c3 z1 z2 rfl hkC ⟨fun z => absurd h0 (Int32.not_le.mpr z), by omega⟩ g1 (fun q z => by rw [g3] at z; cases z) (by rw [g2]; exact hkC) (by rw [g2]; exact va_assign hcls) rfl rfl hd (fun H' e1 e2 e3 => ?_)
      exact kk _ _ _ (jx_set h a _) _ _ _ _ h3 (js_S_upd hS h2 h1 e2 e3 (js_X_st (v := .ref x) ht9 e1 (fun z => by rw [z] at hty; cases hty))) hL hR (jx_le_r h)
    · exact (js_no9 hc9 k1).elim
  · rename_i i a rr
    obtain ⟨q_x, rst9, rfl, h_x, hR0⟩ := js_RL_c hR
    have h_x : q_x = .null := h_x
    subst h_x
    clear hR
    have hR := hR0
    obtain ⟨q_i, rst0, rfl, h_i, hR1⟩ := js_RL_c hR
    have h_i : q_i = .int i := h_i
    subst h_i
    obtain ⟨q_a, rst1, rfl, h_a, hR2⟩ := js_RL_c hR1
    have h_a : q_a = .ref (js_ad G a) := h_a
    subst h_a
    have hR := hR2
    obtain ⟨vs, h1, h0, h2, h4, h3⟩ := jx_st_i hr
    obtain ⟨cell, c1, c2, c3, c4, c5, c6, c7⟩ := js_ar hE hS ht h1
    obtain ⟨ht9, rfl⟩ := c7 h2
    rw [hty] at c2
    refine va_WaastN hx hb c1 c2 c3 (js_in h0 h4 c5) rfl rfl hd (fun H' e1 e2 e3 => ?_)
    exact kk _ _ _ (jx_set h a _) _ _ _ _ h3 (js_S_upd hS h2 h1 e2 e3 (js_X_st (v := .null) ht9 e1 (fun z => by rw [z] at hty; cases hty))) hL hR (jx_le_r h)
  · cases hr
theorem st_gsR {m pc : Nat} {idx a : Nat} {C n d : String} (hz : ((C, n, d, .ref a) : String × String × String × Value) ∈ js_zl) (hw : Jvm.Cond.fieldLink (js_y m).cls idx C n d ∈ js_ws) (hd : decode (js_b m) pc = .ok (.getstatic idx, 3)) : js_St m pc (o_rc a (pc + 3)) := by
  intro p l e R s mth args below meth c Q G H locs ls st h rls rst C K r c0 s0 hC hS hL hR hc hs hRc hRs hRf hRl hm hr kk
  obtain ⟨hx, hb, hml, hown, hts, hlk, hE, hB⟩ := hC
  unfold o_rc at hr
  exact va_gets hx hb (hE.2.2.2.2.1 _ hz) hS.2 hown (hts _ hw) (fun _ z => z) hd (kk _ _ _ _ _ _ _ _ hr hS hL ⟨rfl, hR⟩ (jx_le_r _))
theorem st_gsRn {m pc : Nat} {idx a : Nat} {C n d host : String} (hz : ((C, n, d, .ref a) : String × String × String × Value) ∈ js_zl) (hw : Jvm.Cond.fieldLinkNest (js_y m).cls idx C n d host ∈ lw_tbl) (hd : decode (js_b m) pc = .ok (.getstatic idx, 3)) : js_St m pc (o_rc a (pc + 3)) := by
  intro p l e R s mth args below meth c Q G H locs ls st h rls rst C K r c0 s0 hC hS hL hR hc hs hRc hRs hRf hRl hm hr kk
  obtain ⟨hx, hb, hml, hown, hts, hlk, hE, hB⟩ := hC
  unfold o_rc at hr
  exact va_getsN hx hb (hE.2.2.2.2.1 _ hz) hS.2 hown (va_Nw.use rfl (hE.1 _ hw rfl)) (fun _ z => z) hd (kk _ _ _ _ _ _ _ _ hr hS hL ⟨rfl, hR⟩ (jx_le_r _))
theorem st_gsI {m pc : Nat} {idx : Nat} {v : Int32} {C n d : String} (hz : ((C, n, d, .int v) : String × String × String × Value) ∈ js_zl) (hw : Jvm.Cond.fieldLink (js_y m).cls idx C n d ∈ js_ws) (hd : decode (js_b m) pc = .ok (.getstatic idx, 3)) : js_St m pc (o_ic v (pc + 3)) := by
  intro p l e R s mth args below meth c Q G H locs ls st h rls rst C K r c0 s0 hC hS hL hR hc hs hRc hRs hRf hRl hm hr kk
  obtain ⟨hx, hb, hml, hown, hts, hlk, hE, hB⟩ := hC
  unfold o_ic at hr
  exact va_gets hx hb (hE.2.2.2.2.1 _ hz) hS.2 hown (hts _ hw) (fun _ z => z) hd (kk _ _ _ _ _ _ _ _ hr hS hL ⟨rfl, hR⟩ (jx_le_r _))
theorem st_gsJ {m pc : Nat} {idx : Nat} (hw : Jvm.Cond.fieldLink (js_y m).cls idx "jdk/internal/util/Preconditions" "SIOOBE_FORMATTER" "Ljava/util/function/BiFunction;" ∈ js_ws) (hd : decode (js_b m) pc = .ok (.getstatic idx, 3)) : js_St m pc (o_jc (pc + 3)) := by
  intro p l e R s mth args below meth c Q G H locs ls st h rls rst C K r c0 s0 hC hS hL hR hc hs hRc hRs hRf hRl hm hr kk
  obtain ⟨hx, hb, hml, hown, hts, hlk, hE, hB⟩ := hC
  unfold o_jc at hr
  rcases hE.2.2.2.2.2.2.2.1 with hZ | ⟨t9, hZ⟩
  · exact va_gets hx hb hZ hS.2 hown (hts _ hw) (fun _ z => z) hd (kk _ _ _ _ _ _ _ _ hr hS hL ⟨rfl, hR⟩ (jx_le_r _))
  · exact va_gets hx hb hZ hS.2 hown (hts _ hw) (fun _ z => z) hd (kk _ _ _ _ _ _ _ _ hr hS hL ⟨rfl, hR⟩ (jx_le_r _))
end JS
