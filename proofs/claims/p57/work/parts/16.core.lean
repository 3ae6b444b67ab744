section JS
theorem js_sp_len {G : js_G} : ∀ {as rs : List Value} (_ : js_RL G as rs), (lg_sl rs).length = (jx_sp as).length
  | [], [], _ => rfl
  | a :: as, r :: rs, h => by
    have ih := js_sp_len h.2
    have hc := js_R_cat h.1
    rw [js_w_cat a] at hc
    have e1 : lg_sl (r :: rs) = (if r.category = 2 then [.val r, .second] else [.val r]) ++ lg_sl rs := rfl
    have e2 : jx_sp (a :: as) = bif jx_w a then a :: jx_j :: jx_sp as else a :: jx_sp as := rfl
    rw [e1, e2, List.length_append, ih]
    cases hw : jx_w a with
    | true =>
      rw [hw] at hc
      rw [if_pos (show r.category = 2 from hc)]
      simp; omega
    | false =>
      rw [hw] at hc
      rw [if_neg (show ¬ r.category = 2 by rw [hc]; decide)]
      simp; omega
theorem js_ent {G : js_G} : ∀ {as rs : List Value} (_ : js_RL G as rs) (i k : Nat) (v : Value), (jx_sp as)[k]? = some v → js_nj v → (i + k, js_v G v) ∈ lv_args i rs
  | [], [], _, i, k, v, hv, _ => by simp [jx_sp] at hv
  | a :: as, r :: rs, h, i, k, v, hv, hn => by
    have hc := js_R_cat h.1
    rw [js_w_cat a] at hc
    have e1 : lv_args i (r :: rs) = (i, r) :: lv_args (if r.category = 2 then i + 2 else i + 1) rs := rfl
    have e2 : jx_sp (a :: as) = bif jx_w a then a :: jx_j :: jx_sp as else a :: jx_sp as := rfl
    rw [e2] at hv
    rw [e1]
    cases k with
    | zero =>
      have : v = a := by cases hw : jx_w a <;> rw [hw] at hv <;> simp at hv <;> exact hv.symm
      subst this
      rw [js_Rn h.1 hn]
      exact List.mem_cons_self
    | succ k =>
      refine List.mem_cons_of_mem _ ?_
      cases hw : jx_w a with
      | true =>
        rw [hw] at hv hc
        rw [if_pos (show r.category = 2 from hc)]
        cases k with
        | zero => simp at hv; exact absurd hv.symm (hn 0)
        | succ k =>
          have := js_ent h.2 (i + 2) k v (by simpa using hv) hn
          rw [show i + (k + 1 + 1) = i + 2 + k by omega]
          exact this
      | false =>
        rw [hw] at hv hc
        rw [if_neg (show ¬ r.category = 2 by rw [hc]; decide)]
        have := js_ent h.2 (i + 1) k v (by simpa using hv) hn
        rw [show i + (k + 1) = i + 1 + k by omega]
        exact this
theorem js_entry {G : js_G} {n : Nat} {as rs : List Value} (h : js_RL G as rs) (hn : (jx_sp as).length ≤ n) : js_L G n (jx_en n as) ((lg_sl rs ++ List.replicate (n - (lg_sl rs).length) Slot.unset).toArray) := by
  have hl := lv_entry rs (n := n) (by rw [js_sp_len h]; exact hn)
  refine ⟨hl.1, hl.2.1, fun k v hv hj => ?_⟩
  unfold jx_en at hv
  by_cases hk : k < (jx_sp as).length
  · rw [List.getElem?_append_left hk] at hv
    have := js_ent h 0 k v hv hj
    rw [Nat.zero_add] at this
    exact hl.2.2 _ this
  · rw [List.getElem?_append_right (by omega), List.getElem?_replicate] at hv
    split at hv
    · cases hv; exact absurd rfl (hj 0)
    · cases hv
theorem js_ofWF {l : Launch} {y : MethodName} {ws ws' : List Cond} {rm : Room} {Pc : Array Value → State → Prop} {Qc : Array Value → State → Outcome → State → Prop} {XC : String → State → State → Prop} {mc ms : Nat} {free : Addr → Prop} {cc : ByteArray} {maxL : Nat} {ret : Option FieldType}
    (hy : plainFor y = true) (hw : ws = Jvm.Cond.code y cc maxL ret :: ws')
    (body : ∀ p e s m args below meth c s₁, BodyLoose p l y (headSpec ws rm) cc maxL ret e s m args below meth c s₁ → c.maxLocals = maxL → (∀ x ∈ c.exceptionTable.toList, False) → Pc args s →
      W p l e (headSpec ws rm).room s m args below meth c s.heap [] 0 0 (vx_MQ below Qc XC args s mc ms free) (entryFrame m args maxL)) : vx_Met l y ws rm Pc Qc XC mc ms free := by
  refine MetFree.of_bodySF (code := cc) (maxLocals := maxL) (ret := ret) hy ?_ ?_
  · intro args s m h hn
    obtain ⟨meth, c, h1, h2, h3, h4, h5, h6, -, -⟩ := Jvm.Cond.code_spec hn (atoms_spec (ws := ws) h _ (by rw [hw]; exact List.mem_cons_self))
    exact ⟨meth, c, h1, h2, h3, h4, h5, h6⟩
  · intro p e s m args below meth c s₁ B hml hP _
    have hh0 : s₁.heap = s.heap := by rw [B.state]; rfl
    have ht : ∀ x ∈ c.exceptionTable.toList, False := by
      obtain ⟨meth9, c9, h1, h2, -, -, -, -, h7, -⟩ := Jvm.Cond.code_spec B.named (atoms_spec (ws := ws) B.pre _ (by rw [hw]; exact List.mem_cons_self))
      cases Option.some.inj (h1.symm.trans B.method)
      cases Option.some.inj (h2.symm.trans (Stand.of_body B).code)
      intro x hx
      rw [Array.isEmpty_iff.mp h7] at hx
      cases hx
    obtain ⟨t, a1, o, b1, b2, b3⟩ := body p e s m args below meth c s₁ B hml ht hP s₁ hh0 (Stand.of_body B)
    exact ⟨t, o, a1, b1, b2, b3⟩
/-- what is known of a method without handlers -/
def js_mok (m : Nat) : Prop := plainFor (js_y m) = true ∧ ∀ pc, js_Ok m pc (jx_lk (jx_P m) pc)
/-- a run of a body, by fuel -/
def js_Run (l : Launch) (G : js_G) (n : Nat) : Prop :=
  ∀ (m pc : Nat) (ls st : List Value) (h h0 : jx_H) (r : jx_O), js_kA m = true → jx_xn n m pc ls st h = some r →
    ∀ (p : Program) (e : Env) (s : State) (mth : MethodId) (args : Array Value) (below : List Frame) (meth : Method) (c : Code) (H : Heap) (locs : List Loc) (rls : Array Slot) (rst : List Value),
      meth.name = (js_y m).name → meth.sig.returnType = js_t m → (∀ x ∈ c.exceptionTable.toList, False) → js_Cx G m p l s mth args meth c → js_S G s H locs h → js_L G (jx_M m) ls rls → js_RL G st rst → jx_le h0 h →
      W p l e (js_rm m (r.2.2.2.1 - h0.2.2.1) (r.2.2.2.2 - h0.2.2.2)) s mth args below meth c H locs (h.2.2.1 - h0.2.2.1) (h.2.2.2 - h0.2.2.2) (vx_MQ below (js_Q1 G r) (js_Q2 G r) args s (r.2.2.2.1 - h0.2.2.1) (r.2.2.2.2 - h0.2.2.2) (js_A G)) (F0 mth pc rls rst)
theorem js_con_of {l : Launch} {G : js_G} {n m : Nat} {as : List Value} {h : jx_H} {o : jx_O} (hP : plainFor (js_y m) = true) (hR : js_Run l G n) (hk : js_kA m = true) (hlen : (jx_sp as).length ≤ jx_M m) (hr : jx_xn n m 0 (jx_en (jx_M m) as) [] h = some o) : js_Con l G m as h o := by
  refine js_ofWF (cc := js_b m) (maxL := jx_M m) (ret := js_t m) hP rfl ?_
  intro p e s mth args below meth c s₁ B hml htab hv
  obtain ⟨⟨rs, rfl, hrs⟩, hE, hH⟩ := hv
  have hts := atoms_spec (ws := js_code m :: js_ws) B.pre
  have hown : s.vm.findClass (js_y m).cls = some mth.cls := findClass_of_methodNamed B.named
  rw [lg_entry_eq]
  have hW := hR m 0 (jx_en (jx_M m) as) [] h h o hk hr p e s mth rs.toArray below meth c s.heap [] _ [] (name_of_methodNamed B.named B.method).1 B.returns htab ⟨B.exec, B.bytes, hml, hown, fun w hw => hts w (List.mem_cons_of_mem _ hw), B.notSynchronized, hE, hH.2.2.2.2.2⟩ ⟨hH, va_S.rf⟩ (js_entry hrs hlen) trivial (jx_le_r h)
  rw [Nat.sub_self, Nat.sub_self] at hW
  exact hW
theorem js_run {l : Launch} {G : js_G} (hst : l.stackTraces = false) (hok : ∀ m, js_kA m = true → js_mok m) : ∀ n, js_Run l G n
  | 0 => fun m pc ls st h h0 r hk hr => by cases hr
  | n + 1 => by
    intro m pc ls st h h0 r hk hr p e s mth args below meth c H locs rls rst hmn hrt htab hC hS hL hRl hle
    have ih := js_run (G := G) hst hok n
    refine (hok m hk).2 pc p l e s mth args below meth c G H locs ls st h h0 rls rst (fun m' as h => bif Nat.ble (jx_sp as).length (jx_M m') then jx_xn n m' 0 (jx_en (jx_M m') as) [] h else none) (fun pc ls st h => jx_xn n m pc ls st h) r hmn hrt htab hst hC hS hL hRl hle (fun _ _ _ _ q => jx_mn n _ _ _ _ _ _ q) (fun _ _ _ _ q => jx_mn n _ _ _ _ _ _ (jx_bi q).2) (fun m' as h1 r' hk' q => ?_) hr (fun pc' ls' st' h' H' locs' rls' rst' hK hS' hL' hR' hle' => ih m pc' ls' st' h' h0 r hk hK p e s mth args below meth c H' locs' rls' rst' hmn hrt htab hC hS' hL' hR' (jx_le_t hle hle'))
    obtain ⟨q1, q2⟩ := jx_bi q
    exact js_con_of (hok m' hk').1 ih hk' (Nat.le_of_ble_eq_true q1) q2
/-- the contract of a method without handlers, by what my machine makes of the call -/
theorem js_con {l : Launch} {G : js_G} (hst : l.stackTraces = false) (hok : ∀ m, js_kA m = true → js_mok m) {m : Nat} {as : List Value} {h : jx_H} {o : jx_O} (hk : js_kA m = true) (hA : jx_A m as h = some o) : js_Con l G m as h o := by
  obtain ⟨q1, q2⟩ := jx_bi hA
  obtain ⟨n, e⟩ := jx_E_at q2
  exact js_con_of (hok m hk).1 (js_run hst hok n) hk (Nat.le_of_ble_eq_true q1) e
end JS
