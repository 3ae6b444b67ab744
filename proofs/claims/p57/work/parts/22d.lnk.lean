/-! The claim out of one walk of the law's body. -/
def R_law : String := "MosaicCatalogueLaw"
def lw_P (b : Addr) (xs : List Int32) (args : Array Value) (s : State) : Prop := args = #[.ref b] ∧ s.IntsAt b xs ∧ xs.length ≤ 260 ∧ (Jvm.Cond.and given_1 narrow_1).before args s = true
/-- what a walk over the start with the record d0 says of its end, said of the start itself -/
theorem lw_closed {s t : State} {o : Outcome} {d0 : Drawn} {L : List Loc} {k n : Nat} (hd0 : s.drawn.sameBut d0 lw_cs) (hv : ∃ v, o = .returned v) (hW : (s.setDrawn d0).WarmedH t.vm) (hs : (s.setDrawn d0).sameButNew ({ t with vm := s.vm } : State) L k n) : State.butDraws s t lw_cs (fun t1 => Framed s o t1 L k n) := by
  have h2 : t.drawn = d0 := congrArg State.drawn hs.1
  refine ⟨⟨hv, hW, State.sameButNew.setDrawn hs s.drawn⟩, ?_, by decide⟩
  rw [h2]
  exact hd0
def lw_Q (_ : Array Value) (s : State) (o : Outcome) (t : State) : Prop := o = .returned (some (.int 1)) ∧ State.butDraws s t lw_cs (fun t1 => Framed s o t1 [] 611880 7257558)
def lw_Z (below : List Frame) (a : Array Value) (s : State) : State → Prop := fun t => ∃ o, t.status = .running ∧ Ended t below o ∧ lw_Q a s o t
/-- the law's own end, with 1 on the stack, nothing written that was there before, its room as the claim has it; d0: the record of draws at this point  -/
theorem lw_ret {p : Program} {l : Launch} {e : Env} {s : State} {m : MethodId} {below : List Frame} {meth : Method} {c : Code} {b : Nat} {d0 : Drawn} (hd0 : s.drawn.sameBut d0 lw_cs) (hx : p.tables.exec = Jvm.exec) (hb : c.code = code) (hr : meth.sig.returnType = ret) (hlocks : meth.locks = false) {pc : Nat} {H : Heap} {ls : Array Slot} (hdg : decode code pc = .ok (.ireturn, 1)) : W p l e room_1 (s.setDrawn d0) m #[Value.ref b] below meth c H [] 611880 7257558 (lw_Z below #[Value.ref b] s) (F0 m pc ls [.int 1]) := by
  intro T hT X
  obtain ⟨fs, hret, hrun, hended, hW, hframe⟩ := X.leave (v := some (.int 1)) (hlocks := hlocks) (fun h => by rw [hr] at h; cases h)
  have hmeth' : T.vm.method? m = some meth := X.method'
  refine ⟨T.setFrames fs, ?_, .returned (some (.int 1)), hrun, hended, rfl, lw_closed hd0 ⟨_, rfl⟩ hW hframe⟩
  jvm_step X.here [X.here.top, hx, hb, hdg, hmeth', hr, ret, narrow_b1]
  (try refine ⟨rfl, ?_⟩); (try refine ⟨rfl, ?_⟩)
  first | (intro acts; rw [hret _ acts rfl rfl rfl]) | rw [hret _ _ rfl rfl rfl]
  exact Steps.refl _
/-- what holds at the law's entry: the machine, the code, the tables' words, the script of the ints xs at the cell b, what the Statement gives of the start -/
def lw_At (p : Program) (s : State) (m : MethodId) (meth : Method) (c : Code) (b : Nat) (xs : List Int32) : Prop :=
  p.tables.exec = Jvm.exec ∧ c.code = code ∧ meth.sig.returnType = ret ∧ c.maxLocals = 2 ∧ s.vm.findClass R_law = some m.cls ∧ (∀ w ∈ lw_tbl, w.before #[Value.ref b] s = true) ∧ va_X b xs.length (fun j => xs.getD j 0) s s.heap ∧ meth.locks = false ∧ (Jvm.Cond.and given_1 narrow_1).before #[Value.ref b] s = true ∧ meth.name = x.name ∧ c.exceptionTable.toList = []
/-- from the entry, for every script of at most 260 ints, the law comes to its end with true -/
theorem whole_start {p : Program} {e : Env} {s : State} {m : MethodId} {below : List Frame} {meth : Method} {c : Code} (l : Launch) (hflags : l.flags = flags0) {b : Nat} {xs : List Int32} (hL : xs.length ≤ 260) (C0 : lw_At p s m meth c b xs) : W p l e room_1 s m #[Value.ref b] below meth c s.heap [] 0 0 (lw_Z below #[Value.ref b] s) (entryFrame m ([Value.ref b] : List Value).toArray 2) := by
  obtain ⟨hx, hb, hret, hml, hown, hts, hX, hlk, hgv, hname, htab⟩ := C0
  rw [Cond.before_and, Bool.and_eq_true] at hgv
  have hs : ∀ w ∈ flatC narrow_1, w.before #[Value.ref b] s = true := flat_of_before _ hgv.2
  obtain ⟨ci, sl, rc, hE⟩ := lk_ev (xs := xs) hts hs rfl hX (by omega)
  have hst : l.stackTraces = false := by unfold Launch.stackTraces; rw [hflags]; rfl
  have hb' : c.code = js_b 188 := hb
  have hC : js_Cx (lk_G ci sl rc #[Value.ref b] s xs) 188 p l s m #[Value.ref b] meth c := ⟨hx, hb', hml, hown, fun w hw => (List.mem_append.mp (List.mem_filter.mp hw).1).elim (hts w) (lk_xs hts w), hlk, hE, Nat.le_refl _⟩
  obtain ⟨h', e1, e2, e3⟩ := lw_run (h := (fun q => if q < jx_nc then jx_K0 xs q else none, 200, 0, 0)) (Nat.le_trans hL (by decide)) (fun q hq => if_pos hq) rfl
  obtain ⟨n1, n2⟩ := jx_bi e1
  obtain ⟨n, hr⟩ := jx_E_at n2
  have hl : (jx_sp [Value.ref 199]).length ≤ jx_M 188 := Nat.le_of_ble_eq_true n1
  have hrs : js_RL (lk_G ci sl rc #[Value.ref b] s xs) [Value.ref 199] [Value.ref b] := ⟨congrArg Value.ref (lk_Eof (q := 199) (a := #[Value.ref b]) (s := s) (x := b) rfl).symm, trivial⟩
  have hH : js_H (lk_G ci sl rc #[Value.ref b] s xs) s.heap (fun q => if q < jx_nc then jx_K0 xs q else none, 200, 0, 0) := by
    refine ⟨fun q o hq ho => ?_, fun q hq => if_pos hq, Nat.le_refl _, Nat.le_refl _, fun _ => rfl, Nat.le_refl _⟩
    have ho : (if q < jx_nc then jx_K0 xs q else none) = some o := ho
    rw [if_neg (Nat.not_lt.mpr hq)] at ho
    cases ho
  have hW := js_runG (Q := lw_Z below #[Value.ref b] s) (R := room_1) (below := below) (e := e) (c0 := 0) (s0 := 0) (r := (.inl (some (.int 1)), h')) (js_allB 188 rfl).2.2 hst js_allok
    (js_conB_all hst js_allok js_allB n)
    (show meth.name = (js_y 188).name from hname) hC (show c.exceptionTable.toList = tableOf (js_hh 188) from htab) (lk_nc hs) (show h'.2.2.1 - 0 ≤ 611880 by omega) (show h'.2.2.2 - 0 ≤ 7257558 by omega) (by decide +kernel) (by decide +kernel) rfl
    (fun pc' v rv H' locs' h1 rls' hq hrv he hS' => by
      cases he
      subst hrv
      have hd : decode code pc' = .ok (.ireturn, 1) := by
        rcases hq with ⟨hd, -⟩ | ⟨-, -, x, e⟩ | ⟨-, -, e | ⟨x, e⟩⟩
        · exact hd
        · cases e
        · cases e
        · cases e
      refine va_forget (fun q hq => hS'.2.2.2 q hq) (W.widen (k := 611880) (n := 7257558) (by omega) (by omega) (W.base ?_))
      exact lw_ret (Drawn.sameBut.refl s.drawn lw_cs) hx hb hret hlk hd)
    n 0 (jx_en (jx_M 188) [Value.ref 199]) [] _ s.heap [] _ [] (Nat.le_refl n) hr ⟨hH, va_S.rf⟩ (js_entry hrs hl) trivial (js_jr_no (by decide +kernel)) (Nat.le_refl _) (Nat.le_refl _)
  rw [lg_entry_eq]
  exact hW
