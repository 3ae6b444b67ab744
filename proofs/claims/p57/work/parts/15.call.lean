section JS
def js_code (m : Nat) : Jvm.Cond := .code (js_y m) (js_b m) (jx_M m) (js_t m)
set_option maxRecDepth 20000 in
def js_dl : List Nat := [1, 1, 0, 1, 1, 1, 1, 1, 3, 0, 3, 2, 3, 0, 1, 2, 1, 2, 2, 0, 0, 0, 0, 0, 0, 2, 3, 3, 3, 2, 0, 0, 1, 0, 1, 1, 2, 1, 2, 2, 3, 4, 2, 2, 0, 1, 0, 0, 1, 0, 0, 0, 7, 6, 5, 4, 3, 2, 1, 3, 3, 3, 0, 2, 2, 2, 3, 3, 3, 3, 4, 1, 4, 4, 3, 4, 5, 5, 2, 2, 1, 1, 3, 2, 4, 3, 3, 4, 4, 5, 4, 4, 5, 5, 4, 4, 5, 4, 4, 3, 4, 3, 5, 4, 3, 0, 1, 8, 0, 0, 2, 0, 0, 0, 2, 0, 2, 3, 1, 4, 3, 3, 1, 1, 3, 5, 0, 0, 0, 0, 0, 0, 0, 4, 4, 3, 4, 4, 4, 4, 5, 5, 5, 4, 5, 6, 3, 3, 5, 5, 6, 5, 5, 6, 6, 6, 5, 5, 4, 1, 2, 9, 3, 2, 5, 0, 10, 0, 7, 4, 5, 4, 5, 6, 7, 8, 5, 6, 6, 7, 7, 10, 9, 38, 4, 6, 6, 11, 39, 0, 0, 0, 0, 0, 0, 0, 0, 0, 0, 0, 0, 0, 0, 0, 0, 0, 0, 0, 0, 0, 0, 0, 0, 0, 0, 0, 0, 0, 0, 0, 0, 0, 0, 0, 0, 0, 0, 0, 0, 0, 0, 0, 0, 0, 0, 0, 0, 0, 0, 0, 0, 0, 0, 1, 0, 0, 0, 0, 1, 3, 0, 0, 1, 2, 0, 1, 0, 5, 5, 5, 5, 4, 4, 4, 3, 2, 0, 0, 0, 1, 1, 2, 0, 0, 4, 3, 1, 0, 1, 2, 1, 0, 1]
def js_d (m : Nat) : Nat := bif Nat.ble 300 m then 6 + (330 - m) else match js_dl[m]? with | some d => d | none => 0
set_option maxRecDepth 20000 in
/-- methods without handlers of their own -/
def js_kl : List Bool := [true, true, true, true, true, true, true, true, true, true, true, true, true, true, true, true, true, true, true, true, true, true, true, true, true, true, true, true, true, true, true, true, true, true, true, true, true, true, true, true, true, true, true, true, true, true, true, false, true, true, true, true, true, true, true, true, true, true, true, true, true, true, true, true, true, true, true, true, true, true, true, true, true, true, true, true, true, true, true, true, true, true, true, true, true, true, true, true, true, true, true, true, true, true, true, true, true, true, true, true, true, true, true, true, true, true, true, true, false, false, true, true, false, false, true, true, true, true, true, true, true, true, true, true, true, true, true, true, true, true, true, true, true, false, false, false, false, false, false, false, false, false, false, false, false, false, false, false, false, false, false, false, false, false, false, false, false, false, false, false, false, false, false, false, false, false, false, false, false, false, false, false, false, false, false, false, false, false, false, false, false, false, false, false, false, false, false, false, false, false, false, false, false, false, false, false, false, false, false, false, false, false, false, false, false, false, false, false, false, false, false, false, false, false, false, false, false, false, false, false, false, false, false, false, false, false, false, false, false, false, false, false, false, false, false, false, false, false, false, false, false, true, true, true, true, true, true, true, true, true, true, true, true, true, true, true, true, true, true, true, true, true, true, true, true, true, true, true, true, true, true, true, true, true, true, true, true, true, true, true, true, true, true]
def js_kA (m : Nat) : Bool := bif Nat.ble 300 m then false else match js_kl[m]? with | some d => d | none => false
def js_rm (m mc ms : Nat) : Room := { frames := 6 + js_d m, cells := mc, slots := ms, locals := 100 + 40 * js_d m }
def js_rv (G : js_G) (o : Option Value ⊕ String) (rv : Option Value) : Prop := match o with | .inl none => rv = none | .inl (some v) => ∃ r, rv = some r ∧ js_R G v r | .inr _ => False
def js_Q1 (G : js_G) (o : jx_O) : Array Value → State → Outcome → State → Prop := fun _ st oc t => (∃ rv, oc = .returned rv ∧ js_rv G o.1 rv) ∧ js_H G t.heap o.2 ∧ va_F (js_A G) st t
def js_Q2 (G : js_G) (o : jx_O) : String → State → State → Prop := fun E st t => o.1 = .inr E ∧ js_H G t.heap o.2 ∧ va_F (js_A G) st t
def js_Pc (G : js_G) (as : List Value) (h : jx_H) : Array Value → State → Prop := fun v U => (∃ rs : List Value, v = rs.toArray ∧ js_RL G as rs) ∧ js_Ev G U U.heap ∧ js_H G U.heap h
/-- a method's contract, for one start and what my machine makes of it -/
def js_Con (l : Launch) (G : js_G) (m : Nat) (as : List Value) (h : jx_H) (o : jx_O) : Prop :=
  vx_Met l (js_y m) (js_code m :: js_ws) (js_rm m (o.2.2.2.1 - h.2.2.1) (o.2.2.2.2 - h.2.2.2)) (js_Pc G as h) (js_Q1 G o) (js_Q2 G o) (o.2.2.2.1 - h.2.2.1) (o.2.2.2.2 - h.2.2.2) (js_A G)
theorem js_blind {G : js_G} {as : List Value} {h : jx_H} : FrameBlind (js_Pc G as h) := fun a U g mk hp => ⟨hp.1, js_Ev.pass hp.2.1 va_S.rf (State.WarmedH.refl U), hp.2.2⟩
theorem js_pre {G : js_G} {s U : State} {H : Heap} {locs : List Loc} {as rs : List Value} {h : jx_H} (hE : js_Ev G s s.heap) (hS : js_S G s H locs h) (hr : js_RL G as rs) (hU : U.heap = H) (hW : s.WarmedH U.vm) : js_Pc G as h rs.toArray U :=
  ⟨⟨rs, rfl, hr⟩, by rw [hU]; exact js_Ev.pass hE hS.2 hW, by rw [hU]; exact hS.1⟩
/-- behind a call -/
theorem js_after {p : Program} {l : Launch} {e : Env} {R : Room} {s : State} {mth : MethodId} {args : Array Value} {below : List Frame} {meth : Method} {c : Code} {H : Heap} {locs : List Loc} {Q : State → Prop} {G : js_G} {h : jx_H} {o : jx_O} {pc : Nat} {rls : Array Slot} {st0 rest : List Value} {cells slots mc ms : Nat} {a' : Array Value}
    (hrun : vx_Run p l e R s mth args below meth c H locs cells slots mc ms (F0 mth pc rls st0) rest (js_Q1 G o a') (js_Q2 G o) (js_A G)) (hS : js_S G s H locs h)
    (kkR : ∀ rv, js_rv G o.1 rv → ∀ (H1 : Heap) (locs1 : List Loc), js_S G s H1 locs1 o.2 → W p l e R s mth args below meth c H1 locs1 (cells + mc) (slots + ms) Q (F0 mth (pc + 3) rls (rv.toList ++ rest)))
    (kkX : ∀ (E : String) (q : Addr) (ce : Cell) (H1 : Heap) (locs1 : List Loc), o.1 = .inr E → H1[q]? = some ce → ce.vm = .none → s.vm.findClass E = some ce.cls → js_S G s H1 locs1 o.2 → vx_W p l e R s mth args below meth c H1 locs1 (cells + mc) (slots + ms) Q (F0 mth pc rls rest) q) :
    W p l e R s mth args below meth c H locs cells slots Q (F0 mth pc rls st0) := by
  intro T hT X
  have key : ∀ (st₀ t T' : State) (L : List Loc), st₀.heap = H → T'.heap = t.heap → (∀ z ∈ L, js_A G z.base) → js_H G t.heap o.2 → va_F (js_A G) st₀ t → js_S G s T'.heap (locs ++ L) o.2 := by
    intro st₀ t T' L h0 e1 hL hH hF
    rw [e1]
    obtain ⟨f1, f2⟩ := hF
    rw [h0] at f1 f2
    refine ⟨hH, Nat.le_trans hS.2.1 f1, fun q k1 k2 => (f2 q (Nat.lt_of_lt_of_le k1 hS.2.1) k2).trans (hS.2.2.1 q k1 k2), fun q hq => ?_⟩
    rcases List.mem_append.mp hq with z | z
    · exact hS.2.2.2 q z
    · exact hL q z
  rcases hrun T hT X with ⟨v, st₀, t, T', L, h0, X', hL, e1, e2, ⟨⟨rv, hv, hrv⟩, hH, hF⟩, st⟩ | ⟨q, st₀, t, T', L, E, ce, h0, X', hL, e1, e2, ⟨hE, hH, hF⟩, hce, hcv, hcl, st⟩
  · cases hv
    obtain ⟨t2, a1, b1⟩ := kkR v hrv T'.heap (locs ++ L) (key st₀ t T' L h0 e1 hL hH hF) T' rfl X'
    exact ⟨t2, st t2 a1, b1⟩
  · obtain ⟨t2, a1, b1⟩ := kkX E q ce T'.heap (locs ++ L) hE (by rw [e1]; exact hce) hcv hcl (key st₀ t T' L h0 e1 hL hH hF) T' rfl X'
    exact ⟨t2, st.trans a1, b1⟩
/-- a call's place is linked: m calls mj there with n arguments (the receiver counted) -/
def js_Site (m pc mj n rt : Nat) : Prop :=
  ∀ (p : Program) (l : Launch) (e : Env) (R : Room) (s : State) (mth : MethodId) (args : Array Value) (below : List Frame) (meth : Method) (c : Code) (G : js_G) (H : Heap) (locs : List Loc) (ls us rest : List Value) (h : jx_H) (rls : Array Slot) (rst : List Value) (o : jx_O) (cells slots : Nat),
    js_Cx G m p l s mth args meth c → js_S G s H locs h → js_L G (jx_M m) ls rls → js_RL G (us ++ rest) rst → us.length = n → jx_cat rest ≤ 8 → (rt = 0 ∨ ∃ (t a : Nat) (bs fs : List Value), rt = t + 1 ∧ us.reverse = .ref a :: bs ∧ h.1 a = some (t, fs)) →
    6 + js_d m ≤ R.frames → 100 + 40 * js_d m ≤ R.locals → cells + (o.2.2.2.1 - h.2.2.1) ≤ R.cells → slots + (o.2.2.2.2 - h.2.2.2) ≤ R.slots → js_Con l G mj us.reverse h o →
    ∃ (rrest : List Value) (a' : Array Value), js_RL G rest rrest ∧ vx_Run p l e R s mth args below meth c H locs cells slots (o.2.2.2.1 - h.2.2.1) (o.2.2.2.2 - h.2.2.2) (F0 mth pc rls rst) rrest (js_Q1 G o a') (js_Q2 G o) (js_A G)
theorem js_gi {m : Nat} (h : js_code m ∈ js_ws) : GoodIn js_ws (js_code m :: js_ws) := by
  intro w hw
  have h1 : w ∈ js_ws := by
    rcases List.mem_cons.mp hw with rfl | hw
    · exact h
    · exact hw
  exact ⟨h1, good_of_word (List.mem_filter.mp h1).2⟩
/-- what a call's place owes for its callee -/
def js_lk (m mj n : Nat) : Prop := js_code mj ∈ js_ws ∧ Jvm.Cond.initialized (js_y mj).cls ∈ js_ws ∧ ((js_y mj).cls ≠ "java/lang/invoke/MethodHandle" ∧ (js_y mj).cls ≠ "java/lang/invoke/VarHandle" ∧ (parseMethodDescriptor (js_y mj).desc).map (fun d => d.parameters.length) = some n) ∧ js_d mj < js_d m ∧ jx_M mj ≤ 21
theorem js_room {m mj n mc ms : Nat} {R : Room} (h : js_lk m mj n) (hf : 6 + js_d m ≤ R.frames) (hl : 100 + 40 * js_d m ≤ R.locals) : (js_rm mj mc ms).frames + 1 ≤ R.frames ∧ 8 + (jx_M mj + 11) + (js_rm mj mc ms).locals ≤ R.locals := by
  obtain ⟨-, -, -, h1, h2⟩ := h
  show 6 + js_d mj + 1 ≤ R.frames ∧ 8 + (jx_M mj + 11) + (100 + 40 * js_d mj) ≤ R.locals
  omega
/-- the class of a receiver of kind t -/
def js_rc (t : Nat) (C : String) : Prop := (t < 20 ∧ ∃ q : vw_C, js_cl[t]? = some q ∧ q.1 = C) ∨ (t = 20 ∧ js_cn 20 = C) ∨ (t = 21 ∧ js_cn 21 = C)
theorem js_recv {G : js_G} {s : State} {H : Heap} {locs : List Loc} {h : jx_H} {a t : Nat} {fs : List Value} {C : String} (hE : js_Ev G s s.heap) (hS : js_S G s H locs h) (h1 : h.1 a = some (t, fs)) (hC : js_rc t C) : ∃ cellB : Cell, H[js_ad G a]? = some cellB ∧ cellB.vm.isStatics = false ∧ s.vm.findClass C = some cellB.cls := by
  rcases Nat.lt_or_ge a jx_nc with z | z
  · have e := hS.1.2.1 a z
    rw [h1] at e
    have hC2 : js_cn t = C := by
      rcases hC with ⟨ht, -⟩ | ⟨ht, hc⟩ | ⟨ht, hc⟩
      · have := js_K20 e.symm
        dsimp only at this
        omega
      · rw [ht]; exact hc
      · rw [ht]; exact hc
    subst hC2
    rcases hE.2.2.2.1 a _ z e.symm with ⟨k1, -⟩ | ⟨-, -, k2, -⟩
    · dsimp only at k1
      rcases hC with ⟨ht, -⟩ | ⟨ht, -⟩ | ⟨ht, -⟩ <;> omega
    · obtain ⟨cell, g1, g2, g3, -⟩ := k2.kept hS.2.2.1
      exact ⟨cell, g1, g2, g3⟩
  · obtain ⟨hx, -⟩ := hS.1.1 a _ z h1
    have hq : ∃ q : vw_C, js_cl[t]? = some q ∧ q.1 = C := by
      rcases hC with ⟨-, h⟩ | ⟨rfl, hc⟩ | ⟨rfl, -⟩
      · exact h
      · exact ⟨_, rfl, hc⟩
      · rcases hx with ⟨r, k1, -⟩ | ⟨k1, -⟩
        · exact absurd (show 21 < 21 from js_lt9 k1) (by decide)
        · exact absurd (show 100 ≤ 21 from js_at100 k1) (by decide)
    obtain ⟨q, hq, rfl⟩ := hq
    rcases hx with ⟨r, k1, k2, cell, g1, g2, g3, -⟩ | ⟨k1, -⟩
    · have hr : r = q := Option.some.inj (k1.symm.trans hq)
      subst hr
      exact ⟨cell, g1, by rw [g3]; rfl, by rw [g2]; exact (hE.2.1.1 t _ hq).2.1⟩
    · exact (js_no9 hq k1).elim

theorem site_V {m pc mj n idx : Nat} (hlk9 : js_lk m mj n) {rt : Nat} (hr0 : rt ≠ 0) (hw1 : Jvm.Cond.methodLink (js_y m).cls idx (js_y mj) ∈ js_ws) (hw2 : Jvm.Cond.instanceMethod (js_y mj) ∈ js_ws) (hw3 : Jvm.Cond.selects (js_y mj).cls (js_y mj) (js_y mj) ∈ js_ws) (hC9 : ∀ t, rt = t + 1 → js_rc t (js_y mj).cls)
    (hd : decode (js_b m) pc = .ok (.invokevirtual idx, 3)) : js_Site m pc mj (n + 1) rt := by
  intro p l e R s mth args below meth c G H locs ls us rest h rls rst o cells slots hC hS hL hR hn hk hrt hRf hRl hRc hRs hM
  obtain ⟨hx, hb, hml, hown, hts, hlk, hE, hB⟩ := hC
  obtain ⟨rus, rrest, rfl, hR1, hR2⟩ := js_RL_app hR
  have hrr := js_RL_rev hR1
  have hcat := js_cat_sum hR2
  have hlen : rus.length = (n + 1) := by rw [← js_RL_len hR1, hn]
  obtain ⟨t, a, bs, fs, hz, hus, h1⟩ : ∃ (t a : Nat) (bs fs : List Value), rt = t + 1 ∧ us.reverse = .ref a :: bs ∧ h.1 a = some (t, fs) := by
    rcases hrt with z | z
    · exact absurd z hr0
    · exact z
  have hrr2 := hrr
  rw [hus] at hrr2
  obtain ⟨q, As, eAs, hq, hAs⟩ := js_RL_c hrr2
  have hq : q = .ref (js_ad G a) := hq
  subst hq
  have hstk : rus ++ rrest = As.reverse ++ .ref (js_ad G a) :: rrest := by
    have e := congrArg List.reverse eAs
    rw [List.reverse_reverse, List.reverse_cons] at e
    rw [e, List.append_assoc]; rfl
  have hAn : As.length = n := by
    have e := congrArg List.length eAs
    rw [List.length_reverse, hlen, List.length_cons] at e
    omega
  refine ⟨rrest, _, hR2, vx_runV (C := (js_y mj).cls) (As := As) (rest := rrest) (b := js_ad G a) ⟨hx, hb, hml, hown, hts⟩ hM ⟨callB_of n hts (js_gi hlk9.1) rfl rfl rfl (hts _ hlk9.2.1) (hts _ hw1) hlk9.2.2.1 (js_room hlk9 hRf hRl), hts _ hw2, hts _ hw3⟩ ⟨js_blind, js_recv hE hS h1 (hC9 t hz), fun U hU hW => js_pre (rs := .ref (js_ad G a) :: As) hE hS (by rw [← eAs]; exact hrr) hU hW⟩ rfl hAn (by show rls.size = _; exact hL.1) hstk (by show 2 * 0 + _ ≤ 8; omega) hd ⟨hRc, hRs⟩⟩
theorem site_VN {m pc mj n idx : Nat} (hlk9 : js_lk m mj n) {host : String} {rt : Nat} (hr0 : rt ≠ 0) (hw1 : Jvm.Cond.methodLinkNest (js_y m).cls idx (js_y mj) host ∈ lw_tbl) (hw2 : Jvm.Cond.instanceMethod (js_y mj) ∈ js_ws) (hw3 : Jvm.Cond.selects (js_y mj).cls (js_y mj) (js_y mj) ∈ js_ws) (hC9 : ∀ t, rt = t + 1 → js_rc t (js_y mj).cls)
    (hd : decode (js_b m) pc = .ok (.invokevirtual idx, 3)) : js_Site m pc mj (n + 1) rt := by
  intro p l e R s mth args below meth c G H locs ls us rest h rls rst o cells slots hC hS hL hR hn hk hrt hRf hRl hRc hRs hM
  obtain ⟨hx, hb, hml, hown, hts, hlk, hE, hB⟩ := hC
  obtain ⟨rus, rrest, rfl, hR1, hR2⟩ := js_RL_app hR
  have hrr := js_RL_rev hR1
  have hcat := js_cat_sum hR2
  have hlen : rus.length = (n + 1) := by rw [← js_RL_len hR1, hn]
  obtain ⟨t, a, bs, fs, hz, hus, h1⟩ : ∃ (t a : Nat) (bs fs : List Value), rt = t + 1 ∧ us.reverse = .ref a :: bs ∧ h.1 a = some (t, fs) := by
    rcases hrt with z | z
    · exact absurd z hr0
    · exact z
  have hrr2 := hrr
  rw [hus] at hrr2
  obtain ⟨q, As, eAs, hq, hAs⟩ := js_RL_c hrr2
  have hq : q = .ref (js_ad G a) := hq
  subst hq
  have hstk : rus ++ rrest = As.reverse ++ .ref (js_ad G a) :: rrest := by
    have e := congrArg List.reverse eAs
    rw [List.reverse_reverse, List.reverse_cons] at e
    rw [e, List.append_assoc]; rfl
  have hAn : As.length = n := by
    have e := congrArg List.length eAs
    rw [List.length_reverse, hlen, List.length_cons] at e
    omega
  refine ⟨rrest, _, hR2, vx_runVN (C := (js_y mj).cls) (As := As) (rest := rrest) (b := js_ad G a) ⟨hx, hb, hml, hown, hts⟩ hM ⟨va_cnB n hts (js_gi hlk9.1) rfl rfl rfl (hE.1 _ hw1 rfl) (hts _ hlk9.2.1) hlk9.2.2.1 (js_room hlk9 hRf hRl), hts _ hw2, hts _ hw3⟩ ⟨js_blind, js_recv hE hS h1 (hC9 t hz), fun U hU hW => js_pre (rs := .ref (js_ad G a) :: As) hE hS (by rw [← eAs]; exact hrr) hU hW⟩ rfl hAn (by show rls.size = _; exact hL.1) hstk (by show 2 * 0 + _ ≤ 8; omega) hd ⟨hRc, hRs⟩⟩
theorem site_S {m pc mj n idx : Nat} (hlk9 : js_lk m mj n) {rt : Nat} (hw1 : Jvm.Cond.methodLink (js_y m).cls idx (js_y mj) ∈ js_ws) (hw2 : Jvm.Cond.static (js_y mj) ∈ js_ws)
    (hd : decode (js_b m) pc = .ok (.invokestatic idx, 3)) : js_Site m pc mj n rt := by
  intro p l e R s mth args below meth c G H locs ls us rest h rls rst o cells slots hC hS hL hR hn hk hrt hRf hRl hRc hRs hM
  obtain ⟨hx, hb, hml, hown, hts, hlk, hE, hB⟩ := hC
  obtain ⟨rus, rrest, rfl, hR1, hR2⟩ := js_RL_app hR
  have hrr := js_RL_rev hR1
  have hcat := js_cat_sum hR2
  have hlen : rus.length = n := by rw [← js_RL_len hR1, hn]
  refine ⟨rrest, _, hR2, vx_runS (As := rus.reverse) (rest := rrest) ⟨hx, hb, hml, hown, hts⟩ hM ⟨callB_of n hts (js_gi hlk9.1) rfl rfl rfl (hts _ hlk9.2.1) (hts _ hw1) hlk9.2.2.1 (js_room hlk9 hRf hRl), hts _ hw2⟩ ⟨js_blind, fun U hU hW => js_pre (rs := rus.reverse) hE hS hrr hU hW⟩ rfl (by rw [List.length_reverse]; exact hlen) (by show rls.size = _; exact hL.1) (by rw [List.reverse_reverse]) (by show 2 * 0 + _ ≤ 8; omega) hd ⟨hRc, hRs⟩⟩
theorem site_SN {m pc mj n idx : Nat} (hlk9 : js_lk m mj n) {host : String} {rt : Nat} (hw1 : Jvm.Cond.methodLinkNest (js_y m).cls idx (js_y mj) host ∈ lw_tbl) (hw2 : Jvm.Cond.static (js_y mj) ∈ js_ws)
    (hd : decode (js_b m) pc = .ok (.invokestatic idx, 3)) : js_Site m pc mj n rt := by
  intro p l e R s mth args below meth c G H locs ls us rest h rls rst o cells slots hC hS hL hR hn hk hrt hRf hRl hRc hRs hM
  obtain ⟨hx, hb, hml, hown, hts, hlk, hE, hB⟩ := hC
  obtain ⟨rus, rrest, rfl, hR1, hR2⟩ := js_RL_app hR
  have hrr := js_RL_rev hR1
  have hcat := js_cat_sum hR2
  have hlen : rus.length = n := by rw [← js_RL_len hR1, hn]
  refine ⟨rrest, _, hR2, vx_runSN (As := rus.reverse) (rest := rrest) ⟨hx, hb, hml, hown, hts⟩ hM ⟨va_cnB n hts (js_gi hlk9.1) rfl rfl rfl (hE.1 _ hw1 rfl) (hts _ hlk9.2.1) hlk9.2.2.1 (js_room hlk9 hRf hRl), hts _ hw2, trivial⟩ ⟨js_blind, fun U hU hW => js_pre (rs := rus.reverse) hE hS hrr hU hW⟩ rfl (by rw [List.length_reverse]; exact hlen) (by show rls.size = _; exact hL.1) (by rw [List.reverse_reverse]) (by show 2 * 0 + _ ≤ 8; omega) hd ⟨hRc, hRs⟩⟩
theorem site_I {m pc mj n idx : Nat} (hlk9 : js_lk m mj n) {rt : Nat} (hr0 : rt ≠ 0) (hni : (js_y mj).name = "<init>") (ht0 : js_t mj = none) (hw1 : Jvm.Cond.methodLink (js_y m).cls idx (js_y mj) ∈ js_ws) (hw2 : Jvm.Cond.instanceMethod (js_y mj) ∈ js_ws)
    (hd : decode (js_b m) pc = .ok (.invokespecial idx, 3)) : js_Site m pc mj (n + 1) rt := by
  intro p l e R s mth args below meth c G H locs ls us rest h rls rst o cells slots hC hS hL hR hn hk hrt hRf hRl hRc hRs hM
  obtain ⟨hx, hb, hml, hown, hts, hlk, hE, hB⟩ := hC
  obtain ⟨rus, rrest, rfl, hR1, hR2⟩ := js_RL_app hR
  have hrr := js_RL_rev hR1
  have hcat := js_cat_sum hR2
  have hlen : rus.length = (n + 1) := by rw [← js_RL_len hR1, hn]
  obtain ⟨t, a, bs, fs, hz, hus, h1⟩ : ∃ (t a : Nat) (bs fs : List Value), rt = t + 1 ∧ us.reverse = .ref a :: bs ∧ h.1 a = some (t, fs) := by
    rcases hrt with z | z
    · exact absurd z hr0
    · exact z
  have hrr2 := hrr
  rw [hus] at hrr2
  obtain ⟨q, As, eAs, hq, hAs⟩ := js_RL_c hrr2
  have hq : q = .ref (js_ad G a) := hq
  subst hq
  have hstk : rus ++ rrest = As.reverse ++ .ref (js_ad G a) :: rrest := by
    have e := congrArg List.reverse eAs
    rw [List.reverse_reverse, List.reverse_cons] at e
    rw [e, List.append_assoc]; rfl
  have hAn : As.length = n := by
    have e := congrArg List.length eAs
    rw [List.length_reverse, hlen, List.length_cons] at e
    omega
  have hcw : (js_code mj :: js_ws : List Jvm.Cond) = Jvm.Cond.code (js_y mj) (js_b mj) (jx_M mj) none :: js_ws := by unfold js_code; rw [ht0]
  refine ⟨rrest, _, hR2, vx_runI (As := As) (rest := rrest) (b := js_ad G a) ⟨hx, hb, hml, hown, hts⟩ hM ⟨callB_of (ret := none) n hts (js_gi hlk9.1) hcw rfl rfl (hts _ hlk9.2.1) (hts _ hw1) hlk9.2.2.1 (js_room hlk9 hRf hRl), hni, hts _ hw2⟩ ⟨js_blind, fun U hU hW => js_pre (rs := .ref (js_ad G a) :: As) hE hS (by rw [← eAs]; exact hrr) hU hW⟩ rfl hAn (by show rls.size = _; exact hL.1) hstk (by show 2 * 0 + _ ≤ 8; omega) hd ⟨hRc, hRs⟩⟩
theorem site_IN {m pc mj n idx : Nat} (hlk9 : js_lk m mj n) {host : String} {rt : Nat} (hr0 : rt ≠ 0) (hni : (js_y mj).name = "<init>") (ht0 : js_t mj = none) (hw1 : Jvm.Cond.methodLinkNest (js_y m).cls idx (js_y mj) host ∈ lw_tbl) (hw2 : Jvm.Cond.instanceMethod (js_y mj) ∈ js_ws)
    (hd : decode (js_b m) pc = .ok (.invokespecial idx, 3)) : js_Site m pc mj (n + 1) rt := by
  intro p l e R s mth args below meth c G H locs ls us rest h rls rst o cells slots hC hS hL hR hn hk hrt hRf hRl hRc hRs hM
  obtain ⟨hx, hb, hml, hown, hts, hlk, hE, hB⟩ := hC
  obtain ⟨rus, rrest, rfl, hR1, hR2⟩ := js_RL_app hR
  have hrr := js_RL_rev hR1
  have hcat := js_cat_sum hR2
  have hlen : rus.length = (n + 1) := by rw [← js_RL_len hR1, hn]
  obtain ⟨t, a, bs, fs, hz, hus, h1⟩ : ∃ (t a : Nat) (bs fs : List Value), rt = t + 1 ∧ us.reverse = .ref a :: bs ∧ h.1 a = some (t, fs) := by
    rcases hrt with z | z
    · exact absurd z hr0
    · exact z
  have hrr2 := hrr
  rw [hus] at hrr2
  obtain ⟨q, As, eAs, hq, hAs⟩ := js_RL_c hrr2
  have hq : q = .ref (js_ad G a) := hq
  subst hq
  have hstk : rus ++ rrest = As.reverse ++ .ref (js_ad G a) :: rrest := by
    have e := congrArg List.reverse eAs
    rw [List.reverse_reverse, List.reverse_cons] at e
    rw [e, List.append_assoc]; rfl
  have hAn : As.length = n := by
    have e := congrArg List.length eAs
    rw [List.length_reverse, hlen, List.length_cons] at e
    omega
  have hcw : (js_code mj :: js_ws : List Jvm.Cond) = Jvm.Cond.code (js_y mj) (js_b mj) (jx_M mj) none :: js_ws := by unfold js_code; rw [ht0]
  refine ⟨rrest, _, hR2, vx_runIN (As := As) (rest := rrest) (b := js_ad G a) ⟨hx, hb, hml, hown, hts⟩ hM ⟨va_cnB (ret := none) n hts (js_gi hlk9.1) hcw rfl rfl (hE.1 _ hw1 rfl) (hts _ hlk9.2.1) hlk9.2.2.1 (js_room hlk9 hRf hRl), hni, hts _ hw2⟩ ⟨js_blind, fun U hU hW => js_pre (rs := .ref (js_ad G a) :: As) hE hS (by rw [← eAs]; exact hrr) hU hW⟩ rfl hAn (by show rls.size = _; exact hL.1) hstk (by show 2 * 0 + _ ≤ 8; omega) hd ⟨hRc, hRs⟩⟩
theorem site_U {m pc mj n idx : Nat} (hlk9 : js_lk m mj n) {rt : Nat} {x : MethodName} {C : String} (hr0 : rt ≠ 0) (hyx : js_y mj = ⟨(js_y mj).cls, x.name, x.desc⟩) (hw1 : Jvm.Cond.methodLink (js_y m).cls idx x ∈ js_ws) (hw4 : Jvm.Cond.sameMethod x.cls (js_y mj).cls x.name x.desc ∈ js_ws) (hw3 : Jvm.Cond.selects C x (js_y mj) ∈ js_ws) (hw2 : Jvm.Cond.instanceMethod (js_y mj) ∈ js_ws) (hdx : x.desc = (js_y mj).desc) (hC9 : ∀ t, rt = t + 1 → js_rc t C)
    (hd : decode (js_b m) pc = .ok (.invokevirtual idx, 3)) : js_Site m pc mj (n + 1) rt := by
  intro p l e R s mth args below meth c G H locs ls us rest h rls rst o cells slots hC hS hL hR hn hk hrt hRf hRl hRc hRs hM
  obtain ⟨hx, hb, hml, hown, hts, hlk, hE, hB⟩ := hC
  obtain ⟨rus, rrest, rfl, hR1, hR2⟩ := js_RL_app hR
  have hrr := js_RL_rev hR1
  have hcat := js_cat_sum hR2
  have hlen : rus.length = (n + 1) := by rw [← js_RL_len hR1, hn]
  obtain ⟨t, a, bs, fs, hz, hus, h1⟩ : ∃ (t a : Nat) (bs fs : List Value), rt = t + 1 ∧ us.reverse = .ref a :: bs ∧ h.1 a = some (t, fs) := by
    rcases hrt with z | z
    · exact absurd z hr0
    · exact z
  have hrr2 := hrr
  rw [hus] at hrr2
  obtain ⟨q, As, eAs, hq, hAs⟩ := js_RL_c hrr2
  have hq : q = .ref (js_ad G a) := hq
  subst hq
  have hstk : rus ++ rrest = As.reverse ++ .ref (js_ad G a) :: rrest := by
    have e := congrArg List.reverse eAs
    rw [List.reverse_reverse, List.reverse_cons] at e
    rw [e, List.append_assoc]; rfl
  have hAn : As.length = n := by
    have e := congrArg List.length eAs
    rw [List.length_reverse, hlen, List.length_cons] at e
    omega
  have hG : GoodIn js_ws (va_wsU (js_y m).cls idx C (js_y mj).cls x (js_y mj) (js_code mj :: js_ws)) := by
    intro w hw
    rcases List.mem_append.mp hw with z | z
    · have h9 : w ∈ js_ws := by
        simp only [List.mem_cons, List.not_mem_nil, or_false] at z
        rcases z with rfl | rfl | rfl | rfl | rfl
        · exact hw1
        · exact hw4
        · exact hw3
        · exact hw2
        · exact hlk9.2.1
      exact ⟨h9, good_of_word (List.mem_filter.mp h9).2⟩
    · exact js_gi hlk9.1 w z
  refine ⟨rrest, _, hR2, vx_runU (C := C) (As := As) (rest := rrest) (b := js_ad G a) ⟨hx, hb, hml, hown, hts⟩ hM (va_cwU n hts hG rfl rfl rfl hyx ⟨hlk9.2.2.1.1, hlk9.2.2.1.2.1, by rw [hdx]; exact hlk9.2.2.1.2.2⟩ (js_room hlk9 hRf hRl)) ⟨js_blind, js_recv hE hS h1 (hC9 t hz), fun U hU hW => js_pre (rs := .ref (js_ad G a) :: As) hE hS (by rw [← eAs]; exact hrr) hU hW⟩ rfl hAn (by show rls.size = _; exact hL.1) hstk (by show 2 * 0 + _ ≤ 8; omega) hd ⟨hRc, hRs⟩⟩
theorem site_SU {m pc mj n idx : Nat} (hlk9 : js_lk m mj n) {rt : Nat} (hr9 : rt = 9) (hno : (js_y mj).name ≠ "<init>") (hw1 : Jvm.Cond.methodLink (js_y m).cls idx (js_y mj) ∈ js_ws) (hw2 : Jvm.Cond.instanceMethod (js_y mj) ∈ js_ws) (hw3 : Jvm.Cond.sameMethod (js_y mj).cls (js_y mj).cls (js_y mj).name (js_y mj).desc ∈ js_ws) (hw4 : Jvm.Cond.superclass (js_y m).cls (js_y mj).cls ∈ js_ws)
    (hd : decode (js_b m) pc = .ok (.invokespecial idx, 3)) : js_Site m pc mj (n + 1) rt := by
  intro p l e R s mth args below meth c G H locs ls us rest h rls rst o cells slots hC hS hL hR hn hk hrt hRf hRl hRc hRs hM
  obtain ⟨hx, hb, hml, hown, hts, hlk, hE, hB⟩ := hC
  obtain ⟨rus, rrest, rfl, hR1, hR2⟩ := js_RL_app hR
  have hrr := js_RL_rev hR1
  have hcat := js_cat_sum hR2
  have hlen : rus.length = (n + 1) := by rw [← js_RL_len hR1, hn]
  have hr0 : rt ≠ 0 := by omega
  obtain ⟨t, a, bs, fs, hz, hus, h1⟩ : ∃ (t a : Nat) (bs fs : List Value), rt = t + 1 ∧ us.reverse = .ref a :: bs ∧ h.1 a = some (t, fs) := by
    rcases hrt with z | z
    · exact absurd z hr0
    · exact z
  have hrr2 := hrr
  rw [hus] at hrr2
  obtain ⟨q, As, eAs, hq, hAs⟩ := js_RL_c hrr2
  have hq : q = .ref (js_ad G a) := hq
  subst hq
  have hstk : rus ++ rrest = As.reverse ++ .ref (js_ad G a) :: rrest := by
    have e := congrArg List.reverse eAs
    rw [List.reverse_reverse, List.reverse_cons] at e
    rw [e, List.append_assoc]; rfl
  have hAn : As.length = n := by
    have e := congrArg List.length eAs
    rw [List.length_reverse, hlen, List.length_cons] at e
    omega
  have ht8 : t = 8 := by omega
  subst ht8
  have hG : GoodIn js_ws (va_wsSU (js_y m).cls idx (js_y mj) (js_code mj :: js_ws)) := by
    intro w hw
    rcases List.mem_append.mp hw with z | z
    · have h9 : w ∈ js_ws := by
        simp only [List.mem_cons, List.not_mem_nil, or_false] at z
        rcases z with rfl | rfl | rfl | rfl | rfl
        · exact hw1
        · exact hw3
        · exact hw4
        · exact hw2
        · exact hlk9.2.1
      exact ⟨h9, good_of_word (List.mem_filter.mp h9).2⟩
    · exact js_gi hlk9.1 w z
  refine ⟨rrest, _, hR2, vx_runSU (C := RJ4) (cC := G.1 8) (As := As) (rest := rrest) (b := js_ad G a) (hE.2.1.1 8 _ rfl).2 ⟨hx, hb, hml, hown, hts⟩ hM (va_cwSU n hts hG rfl rfl rfl ⟨hno, hlk9.2.2.1.2.2⟩ (js_room hlk9 hRf hRl)) ⟨js_blind, js_recv hE hS h1 (Or.inl ⟨by decide, _, rfl, rfl⟩), fun U hU hW => js_pre (rs := .ref (js_ad G a) :: As) hE hS (by rw [← eAs]; exact hrr) hU hW⟩ rfl hAn (by show rls.size = _; exact hL.1) hstk (by show 2 * 0 + _ ≤ 8; omega) hd ⟨hRc, hRs⟩⟩
theorem site_O {m pc mj n idx : Nat} (hlk9 : js_lk m mj n) {rt : Nat} {x : MethodName} {C : String} {b0 : ByteArray} {m0 : Nat} {r0 : Option FieldType} (hr0 : rt ≠ 0) (hxo : x.cls ≠ "java/lang/invoke/MethodHandle" ∧ x.cls ≠ "java/lang/invoke/VarHandle") (hw1 : Jvm.Cond.methodLink (js_y m).cls idx x ∈ js_ws) (hw4 : Jvm.Cond.sameMethod x.cls x.cls x.name x.desc ∈ js_ws) (hw5 : Jvm.Cond.instanceMethod x ∈ js_ws) (hw6 : Jvm.Cond.code x b0 m0 r0 ∈ js_ws) (hw3 : Jvm.Cond.selects C x (js_y mj) ∈ js_ws) (hw2 : Jvm.Cond.instanceMethod (js_y mj) ∈ js_ws) (hdx : x.desc = (js_y mj).desc) (hC9 : ∀ t, rt = t + 1 → js_rc t C)
    (hd : decode (js_b m) pc = .ok (.invokevirtual idx, 3)) : js_Site m pc mj (n + 1) rt := by
  intro p l e R s mth args below meth c G H locs ls us rest h rls rst o cells slots hC hS hL hR hn hk hrt hRf hRl hRc hRs hM
  obtain ⟨hx, hb, hml, hown, hts, hlk, hE, hB⟩ := hC
  obtain ⟨rus, rrest, rfl, hR1, hR2⟩ := js_RL_app hR
  have hrr := js_RL_rev hR1
  have hcat := js_cat_sum hR2
  have hlen : rus.length = (n + 1) := by rw [← js_RL_len hR1, hn]
  obtain ⟨t, a, bs, fs, hz, hus, h1⟩ : ∃ (t a : Nat) (bs fs : List Value), rt = t + 1 ∧ us.reverse = .ref a :: bs ∧ h.1 a = some (t, fs) := by
    rcases hrt with z | z
    · exact absurd z hr0
    · exact z
  have hrr2 := hrr
  rw [hus] at hrr2
  obtain ⟨q, As, eAs, hq, hAs⟩ := js_RL_c hrr2
  have hq : q = .ref (js_ad G a) := hq
  subst hq
  have hstk : rus ++ rrest = As.reverse ++ .ref (js_ad G a) :: rrest := by
    have e := congrArg List.reverse eAs
    rw [List.reverse_reverse, List.reverse_cons] at e
    rw [e, List.append_assoc]; rfl
  have hAn : As.length = n := by
    have e := congrArg List.length eAs
    rw [List.length_reverse, hlen, List.length_cons] at e
    omega
  have hG : GoodIn js_ws (va_wsO (js_y m).cls idx C x.cls x (js_y mj) (js_code mj :: js_ws)) := by
    intro w hw
    rcases List.mem_append.mp hw with z | z
    · have h9 : w ∈ js_ws := by
        simp only [List.mem_cons, List.not_mem_nil, or_false] at z
        rcases z with rfl | rfl | rfl | rfl | rfl | rfl
        · exact hw1
        · exact hw4
        · exact hw5
        · exact hw3
        · exact hw2
        · exact hlk9.2.1
      exact ⟨h9, good_of_word (List.mem_filter.mp h9).2⟩
    · exact js_gi hlk9.1 w z
  refine ⟨rrest, _, hR2, vx_runU (C := C) (As := As) (rest := rrest) (b := js_ad G a) ⟨hx, hb, hml, hown, hts⟩ hM (va_cwO n hts hG rfl rfl rfl (b0 := b0) (m0 := m0) (r0 := r0) hw6 ⟨hxo.1, hxo.2, by rw [hdx]; exact hlk9.2.2.1.2.2⟩ (js_room hlk9 hRf hRl)) ⟨js_blind, js_recv hE hS h1 (hC9 t hz), fun U hU hW => js_pre (rs := .ref (js_ad G a) :: As) hE hS (by rw [← eAs]; exact hrr) hU hW⟩ rfl hAn (by show rls.size = _; exact hL.1) hstk (by show 2 * 0 + _ ≤ 8; omega) hd ⟨hRc, hRs⟩⟩
/-- an instruction of a method without handlers, calls and ends included -/
def js_Ok (m pc : Nat) (op : jx_Op) : Prop :=
  ∀ (p : Program) (l : Launch) (e : Env) (s : State) (mth : MethodId) (args : Array Value) (below : List Frame) (meth : Method) (c : Code) (G : js_G) (H : Heap) (locs : List Loc) (ls st : List Value) (h h0 : jx_H) (rls : Array Slot) (rst : List Value) (C : jx_C) (K : jx_K) (r : jx_O),
    meth.name = (js_y m).name → meth.sig.returnType = js_t m → (∀ x ∈ c.exceptionTable.toList, False) → l.stackTraces = false → js_Cx G m p l s mth args meth c → js_S G s H locs h → js_L G (jx_M m) ls rls → js_RL G st rst → jx_le h0 h →
    (∀ pc ls st h, K pc ls st h = some r → jx_le h r.2) → (∀ m' as h r', C m' as h = some r' → jx_le h r'.2) → (∀ m' as h r', js_kA m' = true → C m' as h = some r' → js_Con l G m' as h r') → op C ls st h K = some r →
    (∀ (pc' : Nat) (ls' st' : List Value) (h' : jx_H) (H' : Heap) (locs' : List Loc) (rls' : Array Slot) (rst' : List Value), K pc' ls' st' h' = some r → js_S G s H' locs' h' → js_L G (jx_M m) ls' rls' → js_RL G st' rst' → jx_le h h' → W p l e (js_rm m (r.2.2.2.1 - h0.2.2.1) (r.2.2.2.2 - h0.2.2.2)) s mth args below meth c H' locs' (h'.2.2.1 - h0.2.2.1) (h'.2.2.2 - h0.2.2.2) (vx_MQ below (js_Q1 G r) (js_Q2 G r) args s (r.2.2.2.1 - h0.2.2.1) (r.2.2.2.2 - h0.2.2.2) (js_A G)) (F0 mth pc' rls' rst')) →
    W p l e (js_rm m (r.2.2.2.1 - h0.2.2.1) (r.2.2.2.2 - h0.2.2.2)) s mth args below meth c H locs (h.2.2.1 - h0.2.2.1) (h.2.2.2 - h0.2.2.2) (vx_MQ below (js_Q1 G r) (js_Q2 G r) args s (r.2.2.2.1 - h0.2.2.1) (r.2.2.2.2 - h0.2.2.2) (js_A G)) (F0 mth pc rls rst)
theorem js_Si.ok {m pc : Nat} {op : jx_Op} (hi : js_Si m pc op) : js_Ok m pc op := by
  intro p l e s mth args below meth c G H locs ls st h h0 rls rst C K r hmn hrt htab hst hC hS hL hR hle hK hCm hCS hr kk
  exact hi p l e (js_rm m _ _) s mth args below meth c _ G H locs ls st h rls rst C K r h0.2.2.1 h0.2.2.2 hmn hC hS hL hR hle.2.1 hle.2.2 (Nat.le_refl _) (Nat.le_refl _) (by show 1 ≤ 6 + _; omega) (by show 40 ≤ 100 + _; omega) hK hr kk
theorem js_St.ok {m pc : Nat} {op : jx_Op} (hi : js_St m pc op) : js_Ok m pc op := hi.i.ok
theorem ok_rI {m pc : Nat} (ht9 : js_t m = some .int) (hd : decode (js_b m) pc = .ok (.ireturn, 1)) : js_Ok m pc o_rI := by
  intro p l e s mth args below meth c G H locs ls st h h0 rls rst C K r hmn hrt htab hst hC hS hL hR hle hK hCm hCS hr kk
  obtain ⟨hx, hb, hml, hown, hts, hlk, hE, hB⟩ := id hC
  unfold o_rI at hr
  split at hr
  · rename_i x
    cases hr
    obtain ⟨q, rs, rfl, hq, hrs⟩ := js_RL_c hR
    have hrs := js_RL_n hrs
    subst hrs
    have hq : q = .int x := hq
    subst hq
    exact vx_ret (W.iret hx hb (hrt.trans ht9) (fun t ht hW => ⟨⟨_, rfl, _, rfl, rfl⟩, by rw [ht]; exact hS.1, hS.2.F ht⟩) hS.2.2.2 hd hlk)
  · cases hr
theorem ok_rZ {m pc : Nat} (ht9 : js_t m = some .boolean) (hd : decode (js_b m) pc = .ok (.ireturn, 1)) : js_Ok m pc o_rZ := by
  intro p l e s mth args below meth c G H locs ls st h h0 rls rst C K r hmn hrt htab hst hC hS hL hR hle hK hCm hCS hr kk
  obtain ⟨hx, hb, hml, hown, hts, hlk, hE, hB⟩ := id hC
  unfold o_rZ at hr
  split at hr
  · rename_i x
    split at hr
    · rename_i hz
      cases hr
      obtain ⟨q, rs, rfl, hq, hrs⟩ := js_RL_c hR
      have hrs := js_RL_n hrs
      subst hrs
      have hq : q = .int x := hq
      subst hq
      exact vx_ret (W.zret hx hb (hrt.trans ht9) (by rcases hz with rfl | rfl <;> rfl) (fun t ht hW => ⟨⟨_, rfl, _, rfl, rfl⟩, by rw [ht]; exact hS.1, hS.2.F ht⟩) hS.2.2.2 hd hlk)
    · cases hr
  · cases hr
theorem ok_rC {m pc : Nat} (ht9 : js_t m = some .char) (hd : decode (js_b m) pc = .ok (.ireturn, 1)) : js_Ok m pc o_rC := by
  intro p l e s mth args below meth c G H locs ls st h h0 rls rst C K r hmn hrt htab hst hC hS hL hR hle hK hCm hCS hr kk
  obtain ⟨hx, hb, hml, hown, hts, hlk, hE, hB⟩ := id hC
  unfold o_rC at hr
  split at hr
  · rename_i x
    split at hr
    · rename_i hz
      cases hr
      obtain ⟨q, rs, rfl, hq, hrs⟩ := js_RL_c hR
      have hrs := js_RL_n hrs
      subst hrs
      have hq : q = .int x := hq
      subst hq
      exact vx_ret (W.zret hx hb (hrt.trans ht9) (by obtain ⟨q9, hq9, rfl⟩ := js_ch hz; exact (pk_charN hq9).1) (fun t ht hW => ⟨⟨_, rfl, _, rfl, rfl⟩, by rw [ht]; exact hS.1, hS.2.F ht⟩) hS.2.2.2 hd hlk)
    · cases hr
  · cases hr
theorem ok_rB {m pc : Nat} (ht9 : js_t m = some .byte) (hd : decode (js_b m) pc = .ok (.ireturn, 1)) : js_Ok m pc o_rB := by
  intro p l e s mth args below meth c G H locs ls st h h0 rls rst C K r hmn hrt htab hst hC hS hL hR hle hK hCm hCS hr kk
  obtain ⟨hx, hb, hml, hown, hts, hlk, hE, hB⟩ := id hC
  unfold o_rB at hr
  split at hr
  · rename_i x
    split at hr
    · rename_i hz
      cases hr
      obtain ⟨q, rs, rfl, hq, hrs⟩ := js_RL_c hR
      have hrs := js_RL_n hrs
      subst hrs
      have hq : q = .int x := hq
      subst hq
      exact vx_ret (W.zret hx hb (hrt.trans ht9) (by obtain ⟨q9, hq9, rfl⟩ := js_by hz; have e9 := fa_bs hq9; exact congrArg Value.int e9) (fun t ht hW => ⟨⟨_, rfl, _, rfl, rfl⟩, by rw [ht]; exact hS.1, hS.2.F ht⟩) hS.2.2.2 hd hlk)
    · cases hr
  · cases hr
theorem ok_rL {m pc : Nat} (ht9 : js_t m = some .long) (hd : decode (js_b m) pc = .ok (.lreturn, 1)) : js_Ok m pc o_rL := by
  intro p l e s mth args below meth c G H locs ls st h h0 rls rst C K r hmn hrt htab hst hC hS hL hR hle hK hCm hCS hr kk
  obtain ⟨hx, hb, hml, hown, hts, hlk, hE, hB⟩ := id hC
  unfold o_rL at hr
  split at hr
  · rename_i x
    cases hr
    obtain ⟨q, rs, rfl, hq, hrs⟩ := js_RL_c hR
    have hrs := js_RL_n hrs
    subst hrs
    have hq : q = .long x := hq
    subst hq
    exact vx_ret (W.lret hx hb (hrt.trans ht9) (fun t ht hW => ⟨⟨_, rfl, _, rfl, rfl⟩, by rw [ht]; exact hS.1, hS.2.F ht⟩) hS.2.2.2 hd hlk)
  · cases hr
theorem ok_rF {m pc : Nat} (ht9 : js_t m = some .float) (hd : decode (js_b m) pc = .ok (.freturn, 1)) : js_Ok m pc o_rF := by
  intro p l e s mth args below meth c G H locs ls st h h0 rls rst C K r hmn hrt htab hst hC hS hL hR hle hK hCm hCS hr kk
  obtain ⟨hx, hb, hml, hown, hts, hlk, hE, hB⟩ := id hC
  unfold o_rF at hr
  split at hr
  · rename_i x
    cases hr
    obtain ⟨q, rs, rfl, hq, hrs⟩ := js_RL_c hR
    have hrs := js_RL_n hrs
    subst hrs
    have hq : q = .float x := hq
    subst hq
    exact vx_ret (W.fret hx hb (hrt.trans ht9) (fun t ht hW => ⟨⟨_, rfl, _, rfl, rfl⟩, by rw [ht]; exact hS.1, hS.2.F ht⟩) hS.2.2.2 hd hlk)
  · cases hr
theorem ok_rD {m pc : Nat} (ht9 : js_t m = some .double) (hd : decode (js_b m) pc = .ok (.dreturn, 1)) : js_Ok m pc o_rD := by
  intro p l e s mth args below meth c G H locs ls st h h0 rls rst C K r hmn hrt htab hst hC hS hL hR hle hK hCm hCS hr kk
  obtain ⟨hx, hb, hml, hown, hts, hlk, hE, hB⟩ := id hC
  unfold o_rD at hr
  split at hr
  · rename_i x
    cases hr
    obtain ⟨q, rs, rfl, hq, hrs⟩ := js_RL_c hR
    have hrs := js_RL_n hrs
    subst hrs
    have hq : q = .double x := hq
    subst hq
    exact vx_ret (W.dret hx hb (hrt.trans ht9) (fun t ht hW => ⟨⟨_, rfl, _, rfl, rfl⟩, by rw [ht]; exact hS.1, hS.2.F ht⟩) hS.2.2.2 hd hlk)
  · cases hr
theorem ok_rV {m pc : Nat} (ht9 : js_t m = none) (hd : decode (js_b m) pc = .ok (.return_, 1)) : js_Ok m pc o_rV := by
  intro p l e s mth args below meth c G H locs ls st h h0 rls rst C K r hmn hrt htab hst hC hS hL hR hle hK hCm hCS hr kk
  obtain ⟨hx, hb, hml, hown, hts, hlk, hE, hB⟩ := id hC
  unfold o_rV at hr
  split at hr
  · cases hr
    have hrs := js_RL_n hR
    subst hrs
    exact vx_ret (W.vret hx hb (hrt.trans ht9) (fun t ht hW => ⟨⟨_, rfl, rfl⟩, by rw [ht]; exact hS.1, hS.2.F ht⟩) hS.2.2.2 hd hlk)
  · cases hr
theorem ok_rA {m pc : Nat} {rt : FieldType} (hrt9 : (∃ n, rt = .object n) ∨ ∃ t, rt = .array t) (ht9 : js_t m = some rt) (hd : decode (js_b m) pc = .ok (.areturn, 1)) : js_Ok m pc o_rA := by
  intro p l e s mth args below meth c G H locs ls st h h0 rls rst C K r hmn hrt htab hst hC hS hL hR hle hK hCm hCS hr kk
  obtain ⟨hx, hb, hml, hown, hts, hlk, hE, hB⟩ := id hC
  unfold o_rA at hr
  split at hr
  · rename_i x
    cases hr
    obtain ⟨q, rs, rfl, hq, hrs⟩ := js_RL_c hR
    have hrs := js_RL_n hrs
    subst hrs
    have hq : q = .ref (js_ad G x) := hq
    subst hq
    exact vx_ret (W.aret hx hb (hrt.trans ht9) hrt9 (Or.inr ⟨_, rfl⟩) (fun t ht hW => ⟨⟨_, rfl, _, rfl, rfl⟩, by rw [ht]; exact hS.1, hS.2.F ht⟩) hS.2.2.2 hd hlk)
  · cases hr
    obtain ⟨q, rs, rfl, hq, hrs⟩ := js_RL_c hR
    have hrs := js_RL_n hrs
    subst hrs
    have hq : q = .null := hq
    subst hq
    exact vx_ret (W.aret hx hb (hrt.trans ht9) hrt9 (Or.inl rfl) (fun t ht hW => ⟨⟨_, rfl, _, rfl, rfl⟩, by rw [ht]; exact hS.1, hS.2.F ht⟩) hS.2.2.2 hd hlk)
  · cases hr
theorem js_thrown {G : js_G} {s t : State} {H : Heap} {locs : List Loc} {h : jx_H} (hS : js_S G s H locs h) (h1 : t.heap.size = H.size + 1) (h2 : ∀ q : Nat, q < H.size → t.heap[q]? = H[q]?) : js_H G t.heap (jx_thr h) ∧ va_F (js_A G) s t := by
  obtain ⟨⟨g1, g2, g3, g4, g5, g6⟩, hv⟩ := hS
  refine ⟨⟨fun q o hq ho => ?_, g2, Nat.le_succ_of_le g3, by show h.2.1 + 1 ≤ h.2.2.1 + 1 + jx_nc; omega, fun z => ?_, by omega⟩, by show s.heap.size ≤ t.heap.size; have := hv.1; omega, fun q k1 k2 => (h2 q (Nat.lt_of_lt_of_le k1 hv.1)).trans (hv.2.1 q k1 k2)⟩
  · obtain ⟨k1, k2⟩ := g1 q o hq ho
    have hlt : js_ad G q < H.size := by
      rcases k1 with ⟨r, -, -, cell, e, -⟩ | ⟨-, e, -⟩
      · exact (Array.getElem?_eq_some_iff.mp e).1
      · exact (Array.getElem?_eq_some_iff.mp e).1
    exact ⟨js_X_kept k1 (h2 _ hlt), Nat.lt_succ_of_lt k2⟩
  · have z : h.2.1 + 1 = h.2.2.1 + 1 + jx_nc := z
    have := g5 (by omega)
    show t.heap.size = G.2.2.2.2.1 + (h.2.2.1 + 1)
    omega
theorem ok_th {m pc ik is ic : Nat} {E text : String} (hcl : (js_y m).cls = "MosaicCatalogue") (hfit : Bundle.fit E = true) (hw1 : Jvm.Cond.classLink "MosaicCatalogue" ik E ∈ js_ws) (hw2 : Jvm.Cond.initialized E ∈ js_ws) (hz : ((is, text) : Nat × String) ∈ js_xl) (hat : ∀ w ∈ vx_atS "MosaicCatalogue" ic E ["java/lang/RuntimeException", "java/lang/Exception"], w ∈ lw_tbl ∧ (goodWord w = true ∨ js_nw w = true)) (hot : ∀ w ∈ vx_atS "MosaicCatalogue" ic E ["java/lang/RuntimeException", "java/lang/Exception"], vx_ot w = true)
    (d0 : decode (js_b m) pc = .ok (.new ik, 3)) (d3 : decode (js_b m) (pc + 3) = .ok (.dup, 1)) (d4 : decode (js_b m) (pc + 4) = .ok (.ldc is, 2)) (d6 : decode (js_b m) (pc + 6) = .ok (.invokespecial ic, 3)) (d9 : decode (js_b m) (pc + 9) = .ok (.athrow, 1)) : js_Ok m pc (o_th E) := by
  intro p l e s mth args below meth c G H locs ls st h h0 rls rst C K r hmn hrt htab hst hC hS hL hR hle hK hCm hCS hr kk
  obtain ⟨hx, hb, hml, hown, hts, hlk, hE, hB⟩ := id hC
  obtain ⟨hk9, hr⟩ := jx_ck_i hr
  cases hr
  have hs9 := js_cat_sum hR
  obtain ⟨sa, hsa⟩ := hE.2.2.2.2.2.2.1 _ hz
  rw [hcl] at hown
  have g1 := (List.mem_filter.mp hw1).2
  have g2 := (List.mem_filter.mp hw2).2
  refine vx_throwS (names := ["java/lang/RuntimeException", "java/lang/Exception"]) hx hb hst hown hfit (by decide) (hts _ hw1) (hts _ hw2) hsa (fun w hw => ?_) (fun w hw => ?_) hE.2.2.2.2.2.2.2.2.1 hE.2.2.2.2.2.2.2.2.2 hS.2 (by rw [hL.1, hml]) d0 d3 d4 d6 d9 (fun x hx => (htab x hx).elim) (by show 2 + 3 < 6 + _; omega) (by show _ + (13 * (2 + 1) + 43) ≤ 100 + _; omega) (by show _ ≤ h.2.2.1 + 1 - _; have := hle.2.1; omega) (by show _ ≤ h.2.2.2 + 6 - _; have := hle.2.2; omega) hlk (fun t ha q1 q2 => ⟨rfl, js_thrown hS q1 q2⟩) hS.2.2.2 (by show _ ≤ h.2.2.1 + 1 - _; have := hle.2.1; omega) (by show _ ≤ h.2.2.2 + 6 - _; have := hle.2.2; omega)
  · obtain ⟨k1, k2⟩ := hat w hw
    rcases k2 with k2 | k2
    · exact hts _ (js_ws_m k1 k2)
    · have hz := hE.1 w k1 k2
      cases w with
      | arrayOver ty => cases ty <;> first | exact va_AO.use hz | cases k2
      | _ => first | exact va_Nw.use rfl hz | cases k2
  · rcases List.mem_cons.mp hw with rfl | hw
    · show (_ || goodWord _) = true
      rw [g1, Bool.or_true]
    · rcases List.mem_cons.mp hw with rfl | hw
      · show (_ || goodWord _) = true
        rw [g2, Bool.or_true]
      · exact hot w hw
theorem ok_thw {m pc ik is ic : Nat} {E text : String} (hcl : (js_y m).cls = "MosaicCatalogue") (hfit : Bundle.fit E = true) (hw1 : Jvm.Cond.classLink "MosaicCatalogue" ik E ∈ js_ws) (hw2 : Jvm.Cond.initialized E ∈ js_ws) (hz : ((is, text) : Nat × String) ∈ js_xl) (hat : ∀ w ∈ vx_atS "MosaicCatalogue" ic E ["java/lang/RuntimeException", "java/lang/Exception"], w ∈ lw_tbl ∧ (goodWord w = true ∨ js_nw w = true)) (hot : ∀ w ∈ vx_atS "MosaicCatalogue" ic E ["java/lang/RuntimeException", "java/lang/Exception"], vx_ot w = true)
    (d0 : decode (js_b m) pc = .ok (.new ik, 3)) (d3 : decode (js_b m) (pc + 3) = .ok (.dup, 1)) (d4 : decode (js_b m) (pc + 4) = .ok (.ldc_w is, 3)) (d6 : decode (js_b m) (pc + 7) = .ok (.invokespecial ic, 3)) (d9 : decode (js_b m) (pc + 10) = .ok (.athrow, 1)) : js_Ok m pc (o_th E) := by
  intro p l e s mth args below meth c G H locs ls st h h0 rls rst C K r hmn hrt htab hst hC hS hL hR hle hK hCm hCS hr kk
  obtain ⟨hx, hb, hml, hown, hts, hlk, hE, hB⟩ := id hC
  obtain ⟨hk9, hr⟩ := jx_ck_i hr
  cases hr
  have hs9 := js_cat_sum hR
  obtain ⟨sa, hsa⟩ := hE.2.2.2.2.2.2.1 _ hz
  rw [hcl] at hown
  have g1 := (List.mem_filter.mp hw1).2
  have g2 := (List.mem_filter.mp hw2).2
  refine vx_throwSW (names := ["java/lang/RuntimeException", "java/lang/Exception"]) hx hb hst hown hfit (by decide) (hts _ hw1) (hts _ hw2) hsa (fun w hw => ?_) (fun w hw => ?_) hE.2.2.2.2.2.2.2.2.1 hE.2.2.2.2.2.2.2.2.2 hS.2 (by rw [hL.1, hml]) d0 d3 d4 d6 d9 (fun x hx => (htab x hx).elim) (by show 2 + 3 < 6 + _; omega) (by show _ + (13 * (2 + 1) + 43) ≤ 100 + _; omega) (by show _ ≤ h.2.2.1 + 1 - _; have := hle.2.1; omega) (by show _ ≤ h.2.2.2 + 6 - _; have := hle.2.2; omega) hlk (fun t ha q1 q2 => ⟨rfl, js_thrown hS q1 q2⟩) hS.2.2.2 (by show _ ≤ h.2.2.1 + 1 - _; have := hle.2.1; omega) (by show _ ≤ h.2.2.2 + 6 - _; have := hle.2.2; omega)
  · obtain ⟨k1, k2⟩ := hat w hw
    rcases k2 with k2 | k2
    · exact hts _ (js_ws_m k1 k2)
    · have hz := hE.1 w k1 k2
      cases w with
      | arrayOver ty => cases ty <;> first | exact va_AO.use hz | cases k2
      | _ => first | exact va_Nw.use rfl hz | cases k2
  · rcases List.mem_cons.mp hw with rfl | hw
    · show (_ || goodWord _) = true
      rw [g1, Bool.or_true]
    · rcases List.mem_cons.mp hw with rfl | hw
      · show (_ || goodWord _) = true
        rw [g2, Bool.or_true]
      · exact hot w hw
theorem ok_tn {m pc ik is ic : Nat} {E text : String} {ix : Nat} {rx : ByteArray} (x0 : decode rx 0 = .ok (.aload_n 0, 1)) (x1 : decode rx 1 = .ok (.aload_n 1, 1)) (x2 : decode rx 2 = .ok (.invokespecial ix, 3)) (x5 : decode rx 5 = .ok (.return_, 1)) (hcl : (js_y m).cls = "MosaicCatalogue") (hfit : Bundle.fit E = true) (hw1 : Jvm.Cond.classLink "MosaicCatalogue" ik E ∈ js_ws) (hw2 : Jvm.Cond.initialized E ∈ js_ws) (hz : ((is, text) : Nat × String) ∈ js_xl) (hat : ∀ w ∈ js_ats "MosaicCatalogue" ic E ix rx ["java/lang/RuntimeException", "java/lang/Exception"], w ∈ lw_tbl ∧ (goodWord w = true ∨ js_nw w = true)) (hot : ∀ w ∈ js_ats "MosaicCatalogue" ic E ix rx ["java/lang/RuntimeException", "java/lang/Exception"], vx_ot w = true)
    (d0 : decode (js_b m) pc = .ok (.new ik, 3)) (d3 : decode (js_b m) (pc + 3) = .ok (.dup, 1)) (d4 : decode (js_b m) (pc + 4) = .ok (.ldc is, 2)) (d6 : decode (js_b m) (pc + 6) = .ok (.invokespecial ic, 3)) (d9 : decode (js_b m) (pc + 9) = .ok (.athrow, 1)) : js_Ok m pc (o_th E) := by
  intro p l e s mth args below meth c G H locs ls st h h0 rls rst C K r hmn hrt htab hst hC hS hL hR hle hK hCm hCS hr kk
  obtain ⟨hx, hb, hml, hown, hts, hlk, hE, hB⟩ := id hC
  obtain ⟨hk9, hr⟩ := jx_ck_i hr
  cases hr
  have hs9 := js_cat_sum hR
  obtain ⟨sa, hsa⟩ := hE.2.2.2.2.2.2.1 _ hz
  rw [hcl] at hown
  have g1 := (List.mem_filter.mp hw1).2
  have g2 := (List.mem_filter.mp hw2).2
  refine js_throw (names := ["java/lang/RuntimeException", "java/lang/Exception"]) hx hb hst x0 x1 x2 x5 hown hfit (by decide) (hts _ hw1) (hts _ hw2) hsa (fun w hw => ?_) (fun w hw => ?_) hE.2.2.2.2.2.2.2.2.1 hE.2.2.2.2.2.2.2.2.2 hS.2 (by rw [hL.1, hml]) d0 d3 d4 d6 d9 (fun x hx => (htab x hx).elim) (by show 2 + 3 < 6 + _; omega) (by show _ + (13 * (2 + 1) + 43) ≤ 100 + _; omega) (by show _ ≤ h.2.2.1 + 1 - _; have := hle.2.1; omega) (by show _ ≤ h.2.2.2 + 6 - _; have := hle.2.2; omega) hlk (fun t ha q1 q2 => ⟨rfl, js_thrown hS q1 q2⟩) hS.2.2.2 (by show _ ≤ h.2.2.1 + 1 - _; have := hle.2.1; omega) (by show _ ≤ h.2.2.2 + 6 - _; have := hle.2.2; omega)
  · obtain ⟨k1, k2⟩ := hat w hw
    rcases k2 with k2 | k2
    · exact hts _ (js_ws_m k1 k2)
    · have hz := hE.1 w k1 k2
      cases w with
      | arrayOver ty => cases ty <;> first | exact va_AO.use hz | cases k2
      | _ => first | exact va_Nw.use rfl hz | cases k2
  · rcases List.mem_cons.mp hw with rfl | hw
    · show (_ || goodWord _) = true
      rw [g1, Bool.or_true]
    · rcases List.mem_cons.mp hw with rfl | hw
      · show (_ || goodWord _) = true
        rw [g2, Bool.or_true]
      · exact hot w hw
theorem ok_tnw {m pc ik is ic : Nat} {E text : String} {ix : Nat} {rx : ByteArray} (x0 : decode rx 0 = .ok (.aload_n 0, 1)) (x1 : decode rx 1 = .ok (.aload_n 1, 1)) (x2 : decode rx 2 = .ok (.invokespecial ix, 3)) (x5 : decode rx 5 = .ok (.return_, 1)) (hcl : (js_y m).cls = "MosaicCatalogue") (hfit : Bundle.fit E = true) (hw1 : Jvm.Cond.classLink "MosaicCatalogue" ik E ∈ js_ws) (hw2 : Jvm.Cond.initialized E ∈ js_ws) (hz : ((is, text) : Nat × String) ∈ js_xl) (hat : ∀ w ∈ js_ats "MosaicCatalogue" ic E ix rx ["java/lang/RuntimeException", "java/lang/Exception"], w ∈ lw_tbl ∧ (goodWord w = true ∨ js_nw w = true)) (hot : ∀ w ∈ js_ats "MosaicCatalogue" ic E ix rx ["java/lang/RuntimeException", "java/lang/Exception"], vx_ot w = true)
    (d0 : decode (js_b m) pc = .ok (.new ik, 3)) (d3 : decode (js_b m) (pc + 3) = .ok (.dup, 1)) (d4 : decode (js_b m) (pc + 4) = .ok (.ldc_w is, 3)) (d6 : decode (js_b m) (pc + 7) = .ok (.invokespecial ic, 3)) (d9 : decode (js_b m) (pc + 10) = .ok (.athrow, 1)) : js_Ok m pc (o_th E) := by
  intro p l e s mth args below meth c G H locs ls st h h0 rls rst C K r hmn hrt htab hst hC hS hL hR hle hK hCm hCS hr kk
  obtain ⟨hx, hb, hml, hown, hts, hlk, hE, hB⟩ := id hC
  obtain ⟨hk9, hr⟩ := jx_ck_i hr
  cases hr
  have hs9 := js_cat_sum hR
  obtain ⟨sa, hsa⟩ := hE.2.2.2.2.2.2.1 _ hz
  rw [hcl] at hown
  have g1 := (List.mem_filter.mp hw1).2
  have g2 := (List.mem_filter.mp hw2).2
  refine js_throwW (names := ["java/lang/RuntimeException", "java/lang/Exception"]) hx hb hst x0 x1 x2 x5 hown hfit (by decide) (hts _ hw1) (hts _ hw2) hsa (fun w hw => ?_) (fun w hw => ?_) hE.2.2.2.2.2.2.2.2.1 hE.2.2.2.2.2.2.2.2.2 hS.2 (by rw [hL.1, hml]) d0 d3 d4 d6 d9 (fun x hx => (htab x hx).elim) (by show 2 + 3 < 6 + _; omega) (by show _ + (13 * (2 + 1) + 43) ≤ 100 + _; omega) (by show _ ≤ h.2.2.1 + 1 - _; have := hle.2.1; omega) (by show _ ≤ h.2.2.2 + 6 - _; have := hle.2.2; omega) hlk (fun t ha q1 q2 => ⟨rfl, js_thrown hS q1 q2⟩) hS.2.2.2 (by show _ ≤ h.2.2.1 + 1 - _; have := hle.2.1; omega) (by show _ ≤ h.2.2.2 + 6 - _; have := hle.2.2; omega)
  · obtain ⟨k1, k2⟩ := hat w hw
    rcases k2 with k2 | k2
    · exact hts _ (js_ws_m k1 k2)
    · have hz := hE.1 w k1 k2
      cases w with
      | arrayOver ty => cases ty <;> first | exact va_AO.use hz | cases k2
      | _ => first | exact va_Nw.use rfl hz | cases k2
  · rcases List.mem_cons.mp hw with rfl | hw
    · show (_ || goodWord _) = true
      rw [g1, Bool.or_true]
    · rcases List.mem_cons.mp hw with rfl | hw
      · show (_ || goodWord _) = true
        rw [g2, Bool.or_true]
      · exact hot w hw
theorem ok_cV {m pc mj n rt : Nat} (hs : js_Site m pc mj n rt) (hk : js_kA mj = true) : js_Ok m pc (o_cV mj n rt (pc + 3)) := by
  intro p l e s mth args below meth c G H locs ls st h h0 rls rst C K r hmn hrt htab hst hC hS hL hR hle hK hCm hCS hr kk
  obtain ⟨hx, hb, hml, hown, hts, hlk, hE, hB⟩ := id hC
  unfold o_cV at hr
  obtain ⟨us, rest, rfl, hn9, hk9, hr⟩ := jx_tk_i hr
  obtain ⟨hr, -, hrc⟩ := jx_rc_i hr
  rw [List.append_nil] at hr hrc
  rcases jx_cV_i hr with ⟨h2, e1, h3⟩ | ⟨e9, h2, e1, rfl⟩
  · have hle2 := hCm _ _ _ _ e1
    have hle3 := hK _ _ _ _ h3
    obtain ⟨rrest, a', hR2, hrun⟩ := hs p l e (js_rm m (r.2.2.2.1 - h0.2.2.1) (r.2.2.2.2 - h0.2.2.2)) s mth args below meth c G H locs ls us rest h rls rst _ (h.2.2.1 - h0.2.2.1) (h.2.2.2 - h0.2.2.2) hC hS hL hR hn9 hk9 hrc (Nat.le_refl _) (Nat.le_refl _) (by show _ ≤ r.2.2.2.1 - h0.2.2.1; have a1 := hle.2.1; have a2 := hle2.2.1; have a3 := hle3.2.1; dsimp only at a2 a3 ⊢; omega) (by show _ ≤ r.2.2.2.2 - h0.2.2.2; have a1 := hle.2.2; have a2 := hle2.2.2; have a3 := hle3.2.2; dsimp only at a2 a3 ⊢; omega) (hCS _ _ _ _ hk e1)
    refine js_after hrun hS (fun rv hrv H1 locs1 hS1 => ?_) (fun E q ce H1 locs1 hz => by cases hz)
    have hrv : rv = none := hrv
    subst hrv
    skip
    skip
    have hk2 := kk _ _ _ h2 H1 locs1 rls _ h3 hS1 hL hR2 hle2
    have ec : h2.2.2.1 - h0.2.2.1 = h.2.2.1 - h0.2.2.1 + (h2.2.2.1 - h.2.2.1) := by have a1 := hle.2.1; have a2 := hle2.2.1; dsimp only at a2; omega
    have es : h2.2.2.2 - h0.2.2.2 = h.2.2.2 - h0.2.2.2 + (h2.2.2.2 - h.2.2.2) := by have a1 := hle.2.2; have a2 := hle2.2.2; dsimp only at a2; omega
    rw [ec, es] at hk2
    exact hk2
  · have hle2 := hCm _ _ _ _ e1
    obtain ⟨rrest, a', hR2, hrun⟩ := hs p l e (js_rm m (h2.2.2.1 - h0.2.2.1) (h2.2.2.2 - h0.2.2.2)) s mth args below meth c G H locs ls us rest h rls rst _ (h.2.2.1 - h0.2.2.1) (h.2.2.2 - h0.2.2.2) hC hS hL hR hn9 hk9 hrc (Nat.le_refl _) (Nat.le_refl _) (by show _ ≤ h2.2.2.1 - h0.2.2.1; have a1 := hle.2.1; have a2 := hle2.2.1; dsimp only at a2 ⊢; omega) (by show _ ≤ h2.2.2.2 - h0.2.2.2; have a1 := hle.2.2; have a2 := hle2.2.2; dsimp only at a2 ⊢; omega) (hCS _ _ _ _ hk e1)
    refine js_after hrun hS (fun rv hrv H1 locs1 hS1 => hrv.elim) (fun E q ce H1 locs1 hz hce hcv hcl hS1 => ?_)
    cases hz
    refine vx_out (fun x hx => (htab x hx).elim) hlk hce hcv hcl (fun t ht hA => ⟨rfl, by rw [ht]; exact hS1.1, hS1.2.F ht⟩) hS1.2.2.2 (by have a1 := hle.2.1; have a2 := hle2.2.1; dsimp only at a2 ⊢; omega) (by have a1 := hle.2.2; have a2 := hle2.2.2; dsimp only at a2 ⊢; omega)
theorem ok_cI {m pc mj n rt : Nat} (hs : js_Site m pc mj n rt) (hk : js_kA mj = true) : js_Ok m pc (o_cI mj n rt (pc + 3)) := by
  intro p l e s mth args below meth c G H locs ls st h h0 rls rst C K r hmn hrt htab hst hC hS hL hR hle hK hCm hCS hr kk
  obtain ⟨hx, hb, hml, hown, hts, hlk, hE, hB⟩ := id hC
  unfold o_cI at hr
  obtain ⟨us, rest, rfl, hn9, hk9, hr⟩ := jx_tk_i hr
  obtain ⟨hr, -, hrc⟩ := jx_rc_i hr
  rw [List.append_nil] at hr hrc
  rcases jx_cI_i hr with ⟨x, h2, e1, h3⟩ | ⟨e9, h2, e1, rfl⟩
  · have hle2 := hCm _ _ _ _ e1
    have hle3 := hK _ _ _ _ h3
    obtain ⟨rrest, a', hR2, hrun⟩ := hs p l e (js_rm m (r.2.2.2.1 - h0.2.2.1) (r.2.2.2.2 - h0.2.2.2)) s mth args below meth c G H locs ls us rest h rls rst _ (h.2.2.1 - h0.2.2.1) (h.2.2.2 - h0.2.2.2) hC hS hL hR hn9 hk9 hrc (Nat.le_refl _) (Nat.le_refl _) (by show _ ≤ r.2.2.2.1 - h0.2.2.1; have a1 := hle.2.1; have a2 := hle2.2.1; have a3 := hle3.2.1; dsimp only at a2 a3 ⊢; omega) (by show _ ≤ r.2.2.2.2 - h0.2.2.2; have a1 := hle.2.2; have a2 := hle2.2.2; have a3 := hle3.2.2; dsimp only at a2 a3 ⊢; omega) (hCS _ _ _ _ hk e1)
    refine js_after hrun hS (fun rv hrv H1 locs1 hS1 => ?_) (fun E q ce H1 locs1 hz => by cases hz)
    obtain ⟨q, hrv, hq⟩ := hrv
    subst hrv
    have hq : q = .int x := hq
    subst hq
    have hk2 := kk _ _ _ h2 H1 locs1 rls _ h3 hS1 hL (show js_RL G (_ :: rest) (.int x :: rrest) from ⟨rfl, hR2⟩) hle2
    have ec : h2.2.2.1 - h0.2.2.1 = h.2.2.1 - h0.2.2.1 + (h2.2.2.1 - h.2.2.1) := by have a1 := hle.2.1; have a2 := hle2.2.1; dsimp only at a2; omega
    have es : h2.2.2.2 - h0.2.2.2 = h.2.2.2 - h0.2.2.2 + (h2.2.2.2 - h.2.2.2) := by have a1 := hle.2.2; have a2 := hle2.2.2; dsimp only at a2; omega
    rw [ec, es] at hk2
    exact hk2
  · have hle2 := hCm _ _ _ _ e1
    obtain ⟨rrest, a', hR2, hrun⟩ := hs p l e (js_rm m (h2.2.2.1 - h0.2.2.1) (h2.2.2.2 - h0.2.2.2)) s mth args below meth c G H locs ls us rest h rls rst _ (h.2.2.1 - h0.2.2.1) (h.2.2.2 - h0.2.2.2) hC hS hL hR hn9 hk9 hrc (Nat.le_refl _) (Nat.le_refl _) (by show _ ≤ h2.2.2.1 - h0.2.2.1; have a1 := hle.2.1; have a2 := hle2.2.1; dsimp only at a2 ⊢; omega) (by show _ ≤ h2.2.2.2 - h0.2.2.2; have a1 := hle.2.2; have a2 := hle2.2.2; dsimp only at a2 ⊢; omega) (hCS _ _ _ _ hk e1)
    refine js_after hrun hS (fun rv hrv H1 locs1 hS1 => hrv.elim) (fun E q ce H1 locs1 hz hce hcv hcl hS1 => ?_)
    cases hz
    refine vx_out (fun x hx => (htab x hx).elim) hlk hce hcv hcl (fun t ht hA => ⟨rfl, by rw [ht]; exact hS1.1, hS1.2.F ht⟩) hS1.2.2.2 (by have a1 := hle.2.1; have a2 := hle2.2.1; dsimp only at a2 ⊢; omega) (by have a1 := hle.2.2; have a2 := hle2.2.2; dsimp only at a2 ⊢; omega)
theorem ok_cL {m pc mj n rt : Nat} (hs : js_Site m pc mj n rt) (hk : js_kA mj = true) : js_Ok m pc (o_cL mj n rt (pc + 3)) := by
  intro p l e s mth args below meth c G H locs ls st h h0 rls rst C K r hmn hrt htab hst hC hS hL hR hle hK hCm hCS hr kk
  obtain ⟨hx, hb, hml, hown, hts, hlk, hE, hB⟩ := id hC
  unfold o_cL at hr
  obtain ⟨us, rest, rfl, hn9, hk9, hr⟩ := jx_tk_i hr
  obtain ⟨hr, -, hrc⟩ := jx_rc_i hr
  rw [List.append_nil] at hr hrc
  rcases jx_cL_i hr with ⟨x, h2, e1, h3⟩ | ⟨e9, h2, e1, rfl⟩
  · have hle2 := hCm _ _ _ _ e1
    have hle3 := hK _ _ _ _ h3
    obtain ⟨rrest, a', hR2, hrun⟩ := hs p l e (js_rm m (r.2.2.2.1 - h0.2.2.1) (r.2.2.2.2 - h0.2.2.2)) s mth args below meth c G H locs ls us rest h rls rst _ (h.2.2.1 - h0.2.2.1) (h.2.2.2 - h0.2.2.2) hC hS hL hR hn9 hk9 hrc (Nat.le_refl _) (Nat.le_refl _) (by show _ ≤ r.2.2.2.1 - h0.2.2.1; have a1 := hle.2.1; have a2 := hle2.2.1; have a3 := hle3.2.1; dsimp only at a2 a3 ⊢; omega) (by show _ ≤ r.2.2.2.2 - h0.2.2.2; have a1 := hle.2.2; have a2 := hle2.2.2; have a3 := hle3.2.2; dsimp only at a2 a3 ⊢; omega) (hCS _ _ _ _ hk e1)
    refine js_after hrun hS (fun rv hrv H1 locs1 hS1 => ?_) (fun E q ce H1 locs1 hz => by cases hz)
    obtain ⟨q, hrv, hq⟩ := hrv
    subst hrv
    have hq : q = .long x := hq
    subst hq
    have hk2 := kk _ _ _ h2 H1 locs1 rls _ h3 hS1 hL (show js_RL G (_ :: rest) (.long x :: rrest) from ⟨rfl, hR2⟩) hle2
    have ec : h2.2.2.1 - h0.2.2.1 = h.2.2.1 - h0.2.2.1 + (h2.2.2.1 - h.2.2.1) := by have a1 := hle.2.1; have a2 := hle2.2.1; dsimp only at a2; omega
    have es : h2.2.2.2 - h0.2.2.2 = h.2.2.2 - h0.2.2.2 + (h2.2.2.2 - h.2.2.2) := by have a1 := hle.2.2; have a2 := hle2.2.2; dsimp only at a2; omega
    rw [ec, es] at hk2
    exact hk2
  · have hle2 := hCm _ _ _ _ e1
    obtain ⟨rrest, a', hR2, hrun⟩ := hs p l e (js_rm m (h2.2.2.1 - h0.2.2.1) (h2.2.2.2 - h0.2.2.2)) s mth args below meth c G H locs ls us rest h rls rst _ (h.2.2.1 - h0.2.2.1) (h.2.2.2 - h0.2.2.2) hC hS hL hR hn9 hk9 hrc (Nat.le_refl _) (Nat.le_refl _) (by show _ ≤ h2.2.2.1 - h0.2.2.1; have a1 := hle.2.1; have a2 := hle2.2.1; dsimp only at a2 ⊢; omega) (by show _ ≤ h2.2.2.2 - h0.2.2.2; have a1 := hle.2.2; have a2 := hle2.2.2; dsimp only at a2 ⊢; omega) (hCS _ _ _ _ hk e1)
    refine js_after hrun hS (fun rv hrv H1 locs1 hS1 => hrv.elim) (fun E q ce H1 locs1 hz hce hcv hcl hS1 => ?_)
    cases hz
    refine vx_out (fun x hx => (htab x hx).elim) hlk hce hcv hcl (fun t ht hA => ⟨rfl, by rw [ht]; exact hS1.1, hS1.2.F ht⟩) hS1.2.2.2 (by have a1 := hle.2.1; have a2 := hle2.2.1; dsimp only at a2 ⊢; omega) (by have a1 := hle.2.2; have a2 := hle2.2.2; dsimp only at a2 ⊢; omega)
theorem ok_cF {m pc mj n rt : Nat} (hs : js_Site m pc mj n rt) (hk : js_kA mj = true) : js_Ok m pc (o_cF mj n rt (pc + 3)) := by
  intro p l e s mth args below meth c G H locs ls st h h0 rls rst C K r hmn hrt htab hst hC hS hL hR hle hK hCm hCS hr kk
  obtain ⟨hx, hb, hml, hown, hts, hlk, hE, hB⟩ := id hC
  unfold o_cF at hr
  obtain ⟨us, rest, rfl, hn9, hk9, hr⟩ := jx_tk_i hr
  obtain ⟨hr, -, hrc⟩ := jx_rc_i hr
  rw [List.append_nil] at hr hrc
  rcases jx_cF_i hr with ⟨x, h2, e1, h3⟩ | ⟨e9, h2, e1, rfl⟩
  · have hle2 := hCm _ _ _ _ e1
    have hle3 := hK _ _ _ _ h3
    obtain ⟨rrest, a', hR2, hrun⟩ := hs p l e (js_rm m (r.2.2.2.1 - h0.2.2.1) (r.2.2.2.2 - h0.2.2.2)) s mth args below meth c G H locs ls us rest h rls rst _ (h.2.2.1 - h0.2.2.1) (h.2.2.2 - h0.2.2.2) hC hS hL hR hn9 hk9 hrc (Nat.le_refl _) (Nat.le_refl _) (by show _ ≤ r.2.2.2.1 - h0.2.2.1; have a1 := hle.2.1; have a2 := hle2.2.1; have a3 := hle3.2.1; dsimp only at a2 a3 ⊢; omega) (by show _ ≤ r.2.2.2.2 - h0.2.2.2; have a1 := hle.2.2; have a2 := hle2.2.2; have a3 := hle3.2.2; dsimp only at a2 a3 ⊢; omega) (hCS _ _ _ _ hk e1)
    refine js_after hrun hS (fun rv hrv H1 locs1 hS1 => ?_) (fun E q ce H1 locs1 hz => by cases hz)
    obtain ⟨q, hrv, hq⟩ := hrv
    subst hrv
    have hq : q = .float x := hq
    subst hq
    have hk2 := kk _ _ _ h2 H1 locs1 rls _ h3 hS1 hL (show js_RL G (_ :: rest) (.float x :: rrest) from ⟨rfl, hR2⟩) hle2
    have ec : h2.2.2.1 - h0.2.2.1 = h.2.2.1 - h0.2.2.1 + (h2.2.2.1 - h.2.2.1) := by have a1 := hle.2.1; have a2 := hle2.2.1; dsimp only at a2; omega
    have es : h2.2.2.2 - h0.2.2.2 = h.2.2.2 - h0.2.2.2 + (h2.2.2.2 - h.2.2.2) := by have a1 := hle.2.2; have a2 := hle2.2.2; dsimp only at a2; omega
    rw [ec, es] at hk2
    exact hk2
  · have hle2 := hCm _ _ _ _ e1
    obtain ⟨rrest, a', hR2, hrun⟩ := hs p l e (js_rm m (h2.2.2.1 - h0.2.2.1) (h2.2.2.2 - h0.2.2.2)) s mth args below meth c G H locs ls us rest h rls rst _ (h.2.2.1 - h0.2.2.1) (h.2.2.2 - h0.2.2.2) hC hS hL hR hn9 hk9 hrc (Nat.le_refl _) (Nat.le_refl _) (by show _ ≤ h2.2.2.1 - h0.2.2.1; have a1 := hle.2.1; have a2 := hle2.2.1; dsimp only at a2 ⊢; omega) (by show _ ≤ h2.2.2.2 - h0.2.2.2; have a1 := hle.2.2; have a2 := hle2.2.2; dsimp only at a2 ⊢; omega) (hCS _ _ _ _ hk e1)
    refine js_after hrun hS (fun rv hrv H1 locs1 hS1 => hrv.elim) (fun E q ce H1 locs1 hz hce hcv hcl hS1 => ?_)
    cases hz
    refine vx_out (fun x hx => (htab x hx).elim) hlk hce hcv hcl (fun t ht hA => ⟨rfl, by rw [ht]; exact hS1.1, hS1.2.F ht⟩) hS1.2.2.2 (by have a1 := hle.2.1; have a2 := hle2.2.1; dsimp only at a2 ⊢; omega) (by have a1 := hle.2.2; have a2 := hle2.2.2; dsimp only at a2 ⊢; omega)
theorem ok_cD {m pc mj n rt : Nat} (hs : js_Site m pc mj n rt) (hk : js_kA mj = true) : js_Ok m pc (o_cD mj n rt (pc + 3)) := by
  intro p l e s mth args below meth c G H locs ls st h h0 rls rst C K r hmn hrt htab hst hC hS hL hR hle hK hCm hCS hr kk
  obtain ⟨hx, hb, hml, hown, hts, hlk, hE, hB⟩ := id hC
  unfold o_cD at hr
  obtain ⟨us, rest, rfl, hn9, hk9, hr⟩ := jx_tk_i hr
  obtain ⟨hr, -, hrc⟩ := jx_rc_i hr
  rw [List.append_nil] at hr hrc
  rcases jx_cD_i hr with ⟨x, h2, e1, h3⟩ | ⟨e9, h2, e1, rfl⟩
  · have hle2 := hCm _ _ _ _ e1
    have hle3 := hK _ _ _ _ h3
    obtain ⟨rrest, a', hR2, hrun⟩ := hs p l e (js_rm m (r.2.2.2.1 - h0.2.2.1) (r.2.2.2.2 - h0.2.2.2)) s mth args below meth c G H locs ls us rest h rls rst _ (h.2.2.1 - h0.2.2.1) (h.2.2.2 - h0.2.2.2) hC hS hL hR hn9 hk9 hrc (Nat.le_refl _) (Nat.le_refl _) (by show _ ≤ r.2.2.2.1 - h0.2.2.1; have a1 := hle.2.1; have a2 := hle2.2.1; have a3 := hle3.2.1; dsimp only at a2 a3 ⊢; omega) (by show _ ≤ r.2.2.2.2 - h0.2.2.2; have a1 := hle.2.2; have a2 := hle2.2.2; have a3 := hle3.2.2; dsimp only at a2 a3 ⊢; omega) (hCS _ _ _ _ hk e1)
    refine js_after hrun hS (fun rv hrv H1 locs1 hS1 => ?_) (fun E q ce H1 locs1 hz => by cases hz)
    obtain ⟨q, hrv, hq⟩ := hrv
    subst hrv
    have hq : q = .double x := hq
    subst hq
    have hk2 := kk _ _ _ h2 H1 locs1 rls _ h3 hS1 hL (show js_RL G (_ :: rest) (.double x :: rrest) from ⟨rfl, hR2⟩) hle2
    have ec : h2.2.2.1 - h0.2.2.1 = h.2.2.1 - h0.2.2.1 + (h2.2.2.1 - h.2.2.1) := by have a1 := hle.2.1; have a2 := hle2.2.1; dsimp only at a2; omega
    have es : h2.2.2.2 - h0.2.2.2 = h.2.2.2 - h0.2.2.2 + (h2.2.2.2 - h.2.2.2) := by have a1 := hle.2.2; have a2 := hle2.2.2; dsimp only at a2; omega
    rw [ec, es] at hk2
    exact hk2
  · have hle2 := hCm _ _ _ _ e1
    obtain ⟨rrest, a', hR2, hrun⟩ := hs p l e (js_rm m (h2.2.2.1 - h0.2.2.1) (h2.2.2.2 - h0.2.2.2)) s mth args below meth c G H locs ls us rest h rls rst _ (h.2.2.1 - h0.2.2.1) (h.2.2.2 - h0.2.2.2) hC hS hL hR hn9 hk9 hrc (Nat.le_refl _) (Nat.le_refl _) (by show _ ≤ h2.2.2.1 - h0.2.2.1; have a1 := hle.2.1; have a2 := hle2.2.1; dsimp only at a2 ⊢; omega) (by show _ ≤ h2.2.2.2 - h0.2.2.2; have a1 := hle.2.2; have a2 := hle2.2.2; dsimp only at a2 ⊢; omega) (hCS _ _ _ _ hk e1)
    refine js_after hrun hS (fun rv hrv H1 locs1 hS1 => hrv.elim) (fun E q ce H1 locs1 hz hce hcv hcl hS1 => ?_)
    cases hz
    refine vx_out (fun x hx => (htab x hx).elim) hlk hce hcv hcl (fun t ht hA => ⟨rfl, by rw [ht]; exact hS1.1, hS1.2.F ht⟩) hS1.2.2.2 (by have a1 := hle.2.1; have a2 := hle2.2.1; dsimp only at a2 ⊢; omega) (by have a1 := hle.2.2; have a2 := hle2.2.2; dsimp only at a2 ⊢; omega)
theorem ok_cA {m pc mj n rt : Nat} (hs : js_Site m pc mj n rt) (hk : js_kA mj = true) : js_Ok m pc (o_cA mj n rt (pc + 3)) := by
  intro p l e s mth args below meth c G H locs ls st h h0 rls rst C K r hmn hrt htab hst hC hS hL hR hle hK hCm hCS hr kk
  obtain ⟨hx, hb, hml, hown, hts, hlk, hE, hB⟩ := id hC
  unfold o_cA at hr
  obtain ⟨us, rest, rfl, hn9, hk9, hr⟩ := jx_tk_i hr
  obtain ⟨hr, -, hrc⟩ := jx_rc_i hr
  rw [List.append_nil] at hr hrc
  rcases jx_cA_i hr with ⟨x, h2, e1, h3⟩ | ⟨e9, h2, e1, rfl⟩
  · have hle2 := hCm _ _ _ _ e1
    have hle3 := hK _ _ _ _ h3
    obtain ⟨rrest, a', hR2, hrun⟩ := hs p l e (js_rm m (r.2.2.2.1 - h0.2.2.1) (r.2.2.2.2 - h0.2.2.2)) s mth args below meth c G H locs ls us rest h rls rst _ (h.2.2.1 - h0.2.2.1) (h.2.2.2 - h0.2.2.2) hC hS hL hR hn9 hk9 hrc (Nat.le_refl _) (Nat.le_refl _) (by show _ ≤ r.2.2.2.1 - h0.2.2.1; have a1 := hle.2.1; have a2 := hle2.2.1; have a3 := hle3.2.1; dsimp only at a2 a3 ⊢; omega) (by show _ ≤ r.2.2.2.2 - h0.2.2.2; have a1 := hle.2.2; have a2 := hle2.2.2; have a3 := hle3.2.2; dsimp only at a2 a3 ⊢; omega) (hCS _ _ _ _ hk e1)
    refine js_after hrun hS (fun rv hrv H1 locs1 hS1 => ?_) (fun E q ce H1 locs1 hz => by cases hz)
    obtain ⟨q, hrv, hq⟩ := hrv
    subst hrv
    have hq : q = .ref (js_ad G x) := hq
    subst hq
    have hk2 := kk _ _ _ h2 H1 locs1 rls _ h3 hS1 hL (show js_RL G (_ :: rest) (.ref (js_ad G x) :: rrest) from ⟨rfl, hR2⟩) hle2
    have ec : h2.2.2.1 - h0.2.2.1 = h.2.2.1 - h0.2.2.1 + (h2.2.2.1 - h.2.2.1) := by have a1 := hle.2.1; have a2 := hle2.2.1; dsimp only at a2; omega
    have es : h2.2.2.2 - h0.2.2.2 = h.2.2.2 - h0.2.2.2 + (h2.2.2.2 - h.2.2.2) := by have a1 := hle.2.2; have a2 := hle2.2.2; dsimp only at a2; omega
    rw [ec, es] at hk2
    exact hk2
  · have hle2 := hCm _ _ _ _ e1
    obtain ⟨rrest, a', hR2, hrun⟩ := hs p l e (js_rm m (h2.2.2.1 - h0.2.2.1) (h2.2.2.2 - h0.2.2.2)) s mth args below meth c G H locs ls us rest h rls rst _ (h.2.2.1 - h0.2.2.1) (h.2.2.2 - h0.2.2.2) hC hS hL hR hn9 hk9 hrc (Nat.le_refl _) (Nat.le_refl _) (by show _ ≤ h2.2.2.1 - h0.2.2.1; have a1 := hle.2.1; have a2 := hle2.2.1; dsimp only at a2 ⊢; omega) (by show _ ≤ h2.2.2.2 - h0.2.2.2; have a1 := hle.2.2; have a2 := hle2.2.2; dsimp only at a2 ⊢; omega) (hCS _ _ _ _ hk e1)
    refine js_after hrun hS (fun rv hrv H1 locs1 hS1 => hrv.elim) (fun E q ce H1 locs1 hz hce hcv hcl hS1 => ?_)
    cases hz
    refine vx_out (fun x hx => (htab x hx).elim) hlk hce hcv hcl (fun t ht hA => ⟨rfl, by rw [ht]; exact hS1.1, hS1.2.F ht⟩) hS1.2.2.2 (by have a1 := hle.2.1; have a2 := hle2.2.1; dsimp only at a2 ⊢; omega) (by have a1 := hle.2.2; have a2 := hle2.2.2; dsimp only at a2 ⊢; omega)
theorem ok_cN {m pc mj n rt : Nat} (hs : js_Site m pc mj n rt) (hk : js_kA mj = true) : js_Ok m pc (o_cN mj n rt (pc + 3)) := by
  intro p l e s mth args below meth c G H locs ls st h h0 rls rst C K r hmn hrt htab hst hC hS hL hR hle hK hCm hCS hr kk
  obtain ⟨hx, hb, hml, hown, hts, hlk, hE, hB⟩ := id hC
  unfold o_cN at hr
  obtain ⟨us, rest, rfl, hn9, hk9, hr⟩ := jx_tk_i hr
  obtain ⟨hr, -, hrc⟩ := jx_rc_i hr
  rw [List.append_nil] at hr hrc
  rcases jx_cN_i hr with ⟨x, h2, e1, h3⟩ | ⟨h2, e1, h3⟩ | ⟨e9, h2, e1, rfl⟩
  · have hle2 := hCm _ _ _ _ e1
    have hle3 := hK _ _ _ _ h3
    obtain ⟨rrest, a', hR2, hrun⟩ := hs p l e (js_rm m (r.2.2.2.1 - h0.2.2.1) (r.2.2.2.2 - h0.2.2.2)) s mth args below meth c G H locs ls us rest h rls rst _ (h.2.2.1 - h0.2.2.1) (h.2.2.2 - h0.2.2.2) hC hS hL hR hn9 hk9 hrc (Nat.le_refl _) (Nat.le_refl _) (by show _ ≤ r.2.2.2.1 - h0.2.2.1; have a1 := hle.2.1; have a2 := hle2.2.1; have a3 := hle3.2.1; dsimp only at a2 a3 ⊢; omega) (by show _ ≤ r.2.2.2.2 - h0.2.2.2; have a1 := hle.2.2; have a2 := hle2.2.2; have a3 := hle3.2.2; dsimp only at a2 a3 ⊢; omega) (hCS _ _ _ _ hk e1)
    refine js_after hrun hS (fun rv hrv H1 locs1 hS1 => ?_) (fun E q ce H1 locs1 hz => by cases hz)
    obtain ⟨q, hrv, hq⟩ := hrv
    subst hrv
    have hq : q = .ref (js_ad G x) := hq
    subst hq
    have hk2 := kk _ _ _ h2 H1 locs1 rls _ h3 hS1 hL (show js_RL G (_ :: rest) (.ref (js_ad G x) :: rrest) from ⟨rfl, hR2⟩) hle2
    have ec : h2.2.2.1 - h0.2.2.1 = h.2.2.1 - h0.2.2.1 + (h2.2.2.1 - h.2.2.1) := by have a1 := hle.2.1; have a2 := hle2.2.1; dsimp only at a2; omega
    have es : h2.2.2.2 - h0.2.2.2 = h.2.2.2 - h0.2.2.2 + (h2.2.2.2 - h.2.2.2) := by have a1 := hle.2.2; have a2 := hle2.2.2; dsimp only at a2; omega
    rw [ec, es] at hk2
    exact hk2
  · have hle2 := hCm _ _ _ _ e1
    have hle3 := hK _ _ _ _ h3
    obtain ⟨rrest, a', hR2, hrun⟩ := hs p l e (js_rm m (r.2.2.2.1 - h0.2.2.1) (r.2.2.2.2 - h0.2.2.2)) s mth args below meth c G H locs ls us rest h rls rst _ (h.2.2.1 - h0.2.2.1) (h.2.2.2 - h0.2.2.2) hC hS hL hR hn9 hk9 hrc (Nat.le_refl _) (Nat.le_refl _) (by show _ ≤ r.2.2.2.1 - h0.2.2.1; have a1 := hle.2.1; have a2 := hle2.2.1; have a3 := hle3.2.1; dsimp only at a2 a3 ⊢; omega) (by show _ ≤ r.2.2.2.2 - h0.2.2.2; have a1 := hle.2.2; have a2 := hle2.2.2; have a3 := hle3.2.2; dsimp only at a2 a3 ⊢; omega) (hCS _ _ _ _ hk e1)
    refine js_after hrun hS (fun rv hrv H1 locs1 hS1 => ?_) (fun E q ce H1 locs1 hz => by cases hz)
    obtain ⟨q, hrv, hq⟩ := hrv
    subst hrv
    have hq : q = .null := hq
    subst hq
    have hk2 := kk _ _ _ h2 H1 locs1 rls _ h3 hS1 hL (show js_RL G (_ :: rest) (.null :: rrest) from ⟨rfl, hR2⟩) hle2
    have ec : h2.2.2.1 - h0.2.2.1 = h.2.2.1 - h0.2.2.1 + (h2.2.2.1 - h.2.2.1) := by have a1 := hle.2.1; have a2 := hle2.2.1; dsimp only at a2; omega
    have es : h2.2.2.2 - h0.2.2.2 = h.2.2.2 - h0.2.2.2 + (h2.2.2.2 - h.2.2.2) := by have a1 := hle.2.2; have a2 := hle2.2.2; dsimp only at a2; omega
    rw [ec, es] at hk2
    exact hk2
  · have hle2 := hCm _ _ _ _ e1
    obtain ⟨rrest, a', hR2, hrun⟩ := hs p l e (js_rm m (h2.2.2.1 - h0.2.2.1) (h2.2.2.2 - h0.2.2.2)) s mth args below meth c G H locs ls us rest h rls rst _ (h.2.2.1 - h0.2.2.1) (h.2.2.2 - h0.2.2.2) hC hS hL hR hn9 hk9 hrc (Nat.le_refl _) (Nat.le_refl _) (by show _ ≤ h2.2.2.1 - h0.2.2.1; have a1 := hle.2.1; have a2 := hle2.2.1; dsimp only at a2 ⊢; omega) (by show _ ≤ h2.2.2.2 - h0.2.2.2; have a1 := hle.2.2; have a2 := hle2.2.2; dsimp only at a2 ⊢; omega) (hCS _ _ _ _ hk e1)
    refine js_after hrun hS (fun rv hrv H1 locs1 hS1 => hrv.elim) (fun E q ce H1 locs1 hz hce hcv hcl hS1 => ?_)
    cases hz
    refine vx_out (fun x hx => (htab x hx).elim) hlk hce hcv hcl (fun t ht hA => ⟨rfl, by rw [ht]; exact hS1.1, hS1.2.F ht⟩) hS1.2.2.2 (by have a1 := hle.2.1; have a2 := hle2.2.1; dsimp only at a2 ⊢; omega) (by have a1 := hle.2.2; have a2 := hle2.2.2; dsimp only at a2 ⊢; omega)
end JS
