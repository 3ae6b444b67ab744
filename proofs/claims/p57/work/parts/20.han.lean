section JS
/-- the tables of handlers -/
def js_hh (m : Nat) : List (Nat × Nat × Nat × Nat) := match m with
  | 133 => [(0, 11, 12, 14), (0, 11, 16, 16)]
  | 134 => [(0, 5, 6, 22), (0, 5, 9, 16)]
  | 135 => [(0, 5, 6, 27)]
  | 136 => [(0, 5, 6, 22)]
  | 137 => [(0, 5, 6, 22)]
  | 138 => [(0, 6, 7, 22), (0, 6, 11, 14)]
  | 139 => [(0, 13, 14, 22)]
  | 140 => [(0, 5, 6, 22)]
  | 141 => [(0, 7, 8, 22), (0, 7, 12, 27), (0, 7, 17, 16)]
  | 142 => [(0, 5, 6, 22), (0, 5, 9, 16)]
  | 143 => [(0, 6, 7, 22), (0, 6, 10, 14)]
  | 144 => [(0, 6, 7, 22), (0, 6, 10, 14), (0, 6, 14, 16)]
  | 145 => [(0, 6, 7, 27), (0, 6, 10, 63), (0, 6, 14, 22)]
  | 146 => [(0, 14, 15, 27)]
  | 147 => [(0, 6, 7, 27), (0, 6, 11, 22)]
  | 148 => [(0, 14, 15, 22), (0, 14, 19, 14)]
  | 149 => [(0, 5, 6, 22)]
  | 150 => [(0, 6, 7, 27), (0, 6, 11, 63)]
  | 151 => [(0, 9, 10, 22), (0, 9, 15, 27), (0, 9, 20, 14), (0, 9, 25, 16), (0, 9, 30, 63)]
  | 152 => [(0, 7, 8, 22), (0, 7, 13, 27), (0, 7, 18, 16), (0, 7, 23, 63)]
  | 153 => [(0, 6, 7, 27), (0, 6, 11, 63), (0, 6, 15, 22)]
  | 154 => [(0, 7, 8, 27), (0, 7, 13, 63), (0, 7, 18, 22)]
  | 155 => [(0, 5, 6, 22)]
  | 156 => [(0, 4, 5, 22)]
  | 157 => [(0, 5, 6, 27)]
  | 158 => [(0, 5, 6, 22)]
  | 159 => [(0, 5, 6, 27)]
  | 160 => [(0, 5, 6, 16)]
  | 161 => [(0, 4, 5, 14), (0, 4, 8, 63)]
  | 162 => [(0, 4, 5, 16)]
  | 163 => [(0, 5, 6, 14)]
  | 164 => [(0, 5, 6, 22)]
  | _ => []
def js_ncl : List (String × String) := [("java/lang/IllegalArgumentException", "java/lang/IndexOutOfBoundsException"), ("java/lang/IllegalArgumentException", "java/util/NoSuchElementException"), ("java/lang/IllegalStateException", "java/lang/IllegalArgumentException"), ("java/lang/IllegalStateException", "java/lang/IndexOutOfBoundsException"), ("java/lang/IllegalStateException", "java/util/NoSuchElementException"), ("java/lang/IndexOutOfBoundsException", "java/util/NoSuchElementException"), ("java/lang/UnsupportedOperationException", "java/lang/IllegalArgumentException"), ("java/lang/UnsupportedOperationException", "java/lang/IllegalStateException"), ("java/lang/UnsupportedOperationException", "java/lang/IndexOutOfBoundsException"), ("java/lang/UnsupportedOperationException", "java/util/NoSuchElementException"), ("java/util/NoSuchElementException", "java/lang/IndexOutOfBoundsException"), ("java/util/NoSuchElementException", "java/lang/UnsupportedOperationException")]
def js_hp (m : Nat) : List Nat := (js_hh m).map (fun q => q.2.2.1)
def js_kB (m : Nat) : Bool := (Nat.ble 133 m && Nat.blt m 189) || (Nat.ble 300 m && Nat.blt m 331)
def js_codeW (m : Nat) : Jvm.Cond := match js_hh m with | [] => js_code m | q :: r => .codeWith (js_y m) (js_b m) (jx_M m) (js_t m) (q :: r)
/-- how a method that returns ends -/
def js_end (m pc : Nat) (v : Value) : Prop := (decode (js_b m) pc = .ok (.ireturn, 1) ∧ ∃ x : Int32, v = .int x ∧ (js_t m = some .int ∨ (js_t m = some .boolean ∧ (x = 0 ∨ x = 1)))) ∨ (decode (js_b m) pc = .ok (.lreturn, 1) ∧ js_t m = some .long ∧ ∃ x : Int64, v = .long x) ∨ (decode (js_b m) pc = .ok (.areturn, 1) ∧ (∃ n, js_t m = some (.object n)) ∧ (v = .null ∨ ∃ x : Nat, v = .ref x))
/-- classes of exceptions apart -/
def js_Nc (U : State) : Prop := ∀ z ∈ js_ncl, va_Nc z.1 z.2 U
def js_PcB (G : js_G) (as : List Value) (h : jx_H) : Array Value → State → Prop := fun v U => js_Pc G as h v U ∧ js_Nc U
/-- the contract of a method with handlers: it always returns -/
def js_ConB (l : Launch) (G : js_G) (m : Nat) (as : List Value) (h : jx_H) (o : jx_O) : Prop :=
  Met l (js_y m) (js_codeW m :: js_ws) (js_rm m (o.2.2.2.1 - h.2.2.1) (o.2.2.2.2 - h.2.2.2)) (js_PcB G as h) (js_Q1 G o) (o.2.2.2.1 - h.2.2.1) (o.2.2.2.2 - h.2.2.2) (js_A G)
/-- at a handler the thing caught lies on the stack -/
def js_jr (m pc : Nat) (rst : List Value) : Prop := (js_hp m).contains pc = true → ∃ q : Nat, rst = [.ref q]
theorem js_jr_no {m pc : Nat} {rst : List Value} (h : (js_hp m).contains pc = false) : js_jr m pc rst := fun z => by rw [h] at z; cases z
/-- one instruction, calls and handlers included, under any frame's end -/
def js_OkG (m pc : Nat) (op : jx_Op) : Prop :=
  ∀ (p : Program) (l : Launch) (e : Env) (R : Room) (s : State) (mth : MethodId) (args : Array Value) (below : List Frame) (meth : Method) (c : Code) (Q : State → Prop) (G : js_G) (H : Heap) (locs : List Loc) (ls st : List Value) (h : jx_H) (rls : Array Slot) (rst : List Value) (C : jx_C) (K : jx_K) (r : jx_O) (c0 s0 : Nat) (w : Value),
    meth.name = (js_y m).name → js_Cx G m p l s mth args meth c → c.exceptionTable.toList = tableOf (js_hh m) → js_Nc s → js_S G s H locs h → js_L G (jx_M m) ls rls → js_RL G st rst → js_jr m pc rst → c0 ≤ h.2.2.1 → s0 ≤ h.2.2.2 → r.2.2.2.1 - c0 ≤ R.cells → r.2.2.2.2 - s0 ≤ R.slots → 6 + js_d m ≤ R.frames → 100 + 40 * js_d m ≤ R.locals → r.1 = .inl (some w) →
    (∀ pc ls st h, K pc ls st h = some r → jx_le h r.2) → (∀ m' as h r', C m' as h = some r' → jx_le h r'.2) → (∀ m' as h r', js_kA m' = true → C m' as h = some r' → js_Con l G m' as h r') → (∀ m' as h r' v, js_kB m' = true → C m' as h = some r' → r'.1 = .inl (some v) → js_ConB l G m' as h r') → op C ls st h K = some r →
    (∀ (pc' : Nat) (ls' st' : List Value) (h' : jx_H) (H' : Heap) (locs' : List Loc) (rls' : Array Slot) (rst' : List Value), K pc' ls' st' h' = some r → js_S G s H' locs' h' → js_L G (jx_M m) ls' rls' → js_RL G st' rst' → js_jr m pc' rst' → jx_le h h' → W p l e R s mth args below meth c H' locs' (h'.2.2.1 - c0) (h'.2.2.2 - s0) Q (F0 mth pc' rls' rst')) →
    (∀ (pc' : Nat) (v rv : Value) (H' : Heap) (locs' : List Loc) (h' : jx_H) (rls' : Array Slot), js_end m pc' v → rv = js_v G v → r = (.inl (some v), h') → js_S G s H' locs' h' → W p l e R s mth args below meth c H' locs' (h'.2.2.1 - c0) (h'.2.2.2 - s0) Q (F0 mth pc' rls' [rv])) →
    W p l e R s mth args below meth c H locs (h.2.2.1 - c0) (h.2.2.2 - s0) Q (F0 mth pc rls rst)
/-- the run goes on nowhere at a handler -/
def js_out (hp : List Nat) (K : jx_K) : jx_K := fun pc ls st h => bif hp.contains pc then none else K pc ls st h
theorem js_out_i {hp : List Nat} {K : jx_K} {pc : Nat} {ls st : List Value} {h : jx_H} {r : jx_O} (q : js_out hp K pc ls st h = some r) : hp.contains pc = false ∧ K pc ls st h = some r := by
  unfold js_out at q
  cases e : hp.contains pc with
  | true => rw [e] at q; cases q
  | false => rw [e] at q; exact ⟨rfl, q⟩
theorem js_Si.okG {m pc : Nat} {op : jx_Op} (hi : js_Si m pc op) (ho : ∀ (C : jx_C) (ls st : List Value) (h : jx_H) (K : jx_K), op C ls st h (js_out (js_hp m) K) = op C ls st h K) : js_OkG m pc op := by
  intro p l e R s mth args below meth c Q G H locs ls st h rls rst C K r c0 s0 w hmn hC htab hnc hS hL hR hj hc hs hRc hRs hRf hRl hw hK hCm hCA hCB hr kk kend
  exact hi p l e R s mth args below meth c Q G H locs ls st h rls rst C (js_out (js_hp m) K) r c0 s0 hmn hC hS hL hR hc hs hRc hRs (by omega) (by omega) (fun _ _ _ _ q => hK _ _ _ _ (js_out_i q).2) ((ho C ls st h K).trans hr) (fun pc' ls' st' h' H' locs' rls' rst' q a1 a2 a3 a4 => kk pc' ls' st' h' H' locs' rls' rst' (js_out_i q).2 a1 a2 a3 (js_jr_no (js_out_i q).1) a4)
theorem js_St.okG {m pc : Nat} {op : jx_Op} (hi : js_St m pc op) (ho : ∀ (C : jx_C) (ls st : List Value) (h : jx_H) (K : jx_K), op C ls st h (js_out (js_hp m) K) = op C ls st h K) : js_OkG m pc op := js_Si.okG hi.i ho
theorem og_ret {m pc : Nat} {op : jx_Op} (hop : ∀ (C : jx_C) (ls st : List Value) (h : jx_H) (K : jx_K) (r : jx_O), op C ls st h K = some r → ∃ v, st = [v] ∧ r = (.inl (some v), h) ∧ js_end m pc v ∧ js_nj v) : js_OkG m pc op := by
  intro p l e R s mth args below meth c Q G H locs ls st h rls rst C K r c0 s0 w hmn hC htab hnc hS hL hR hj hc hs hRc hRs hRf hRl hw hK hCm hCA hCB hr kk kend
  obtain ⟨v, rfl, rfl, he, hn⟩ := hop _ _ _ _ _ _ hr
  obtain ⟨q, rs, rfl, hq, hrs⟩ := js_RL_c hR
  have hrs := js_RL_n hrs
  subst hrs
  exact kend pc v q H locs h rls he (js_Rn hq hn) rfl hS
theorem og_rI {m pc : Nat} (ht : js_t m = some .int) (hd : decode (js_b m) pc = .ok (.ireturn, 1)) : js_OkG m pc o_rI := by
  refine og_ret (fun C ls st h K r hr => ?_)
  unfold o_rI at hr
  split at hr
  · rename_i x
    exact ⟨.int x, rfl, (Option.some.inj hr).symm, Or.inl ⟨hd, x, rfl, Or.inl ht⟩, js_nj_i x⟩
  · cases hr
theorem og_rZ {m pc : Nat} (ht : js_t m = some .boolean) (hd : decode (js_b m) pc = .ok (.ireturn, 1)) : js_OkG m pc o_rZ := by
  refine og_ret (fun C ls st h K r hr => ?_)
  unfold o_rZ at hr
  split at hr
  · rename_i x
    split at hr
    · rename_i hz
      exact ⟨.int x, rfl, (Option.some.inj hr).symm, Or.inl ⟨hd, x, rfl, Or.inr ⟨ht, hz⟩⟩, js_nj_i x⟩
    · cases hr
  · cases hr
theorem og_rL {m pc : Nat} (ht : js_t m = some .long) (hd : decode (js_b m) pc = .ok (.lreturn, 1)) : js_OkG m pc o_rL := by
  refine og_ret (fun C ls st h K r hr => ?_)
  unfold o_rL at hr
  split at hr
  · rename_i x
    exact ⟨.long x, rfl, (Option.some.inj hr).symm, Or.inr (Or.inl ⟨hd, ht, x, rfl⟩), js_nj_l x⟩
  · cases hr
theorem og_rA {m pc : Nat} (ht : ∃ n, js_t m = some (.object n)) (hd : decode (js_b m) pc = .ok (.areturn, 1)) : js_OkG m pc o_rA := by
  refine og_ret (fun C ls st h K r hr => ?_)
  unfold o_rA at hr
  split at hr
  · rename_i x
    exact ⟨.ref x, rfl, (Option.some.inj hr).symm, Or.inr (Or.inr ⟨hd, ht, Or.inr ⟨x, rfl⟩⟩), js_nj_r x⟩
  · exact ⟨.null, rfl, (Option.some.inj hr).symm, Or.inr (Or.inr ⟨hd, ht, Or.inl rfl⟩), js_nj_n⟩
  · cases hr
/-- the thing caught is put away -/
theorem og_aj {m pc i nx : Nat} (hp : (js_hp m).contains pc = true) (hn : (js_hp m).contains nx = false)
    (hrow : ∀ (p : Program) (l : Launch) (e : Env) (R : Room) (s : State) (mth : MethodId) (args : Array Value) (below : List Frame) (meth : Method) (c : Code) (Q : State → Prop) (H : Heap) (locs : List Loc) (cells slots : Nat) (rls : Array Slot) (lv : List (Nat × Value)) (q : Nat), p.tables.exec = Jvm.exec → c.code = js_b m → lv_has rls (jx_M m) lv →
      (∀ rls' : Array Slot, lv_has rls' (jx_M m) ((i, Value.ref q) :: lv.filter (fun q => !(q.1 == i) && !(q.1 + 1 == i && q.2.category == 2))) → W p l e R s mth args below meth c H locs cells slots Q (F0 mth nx rls' [])) → W p l e R s mth args below meth c H locs cells slots Q (F0 mth pc rls [.ref q])) : js_OkG m pc (o_aj i nx) := by
  intro p l e R s mth args below meth c Q G H locs ls st h rls rst C K r c0 s0 w hmn hC htab hnc hS hL hR hj hc hs hRc hRs hRf hRl hw hK hCm hCA hCB hr kk kend
  obtain ⟨hx, hb, hml, hown, hts, hlk, hE, hB⟩ := hC
  obtain ⟨q, rfl⟩ := hj hp
  unfold o_aj at hr
  split at hr
  · rename_i rr
    obtain ⟨q1, rs, e1, -, hrs⟩ := js_RL_c hR
    cases e1
    refine hrow p l e R s mth args below meth c Q H locs _ _ rls _ q hx hb (js_L_has hL) (fun rls' hl' => ?_)
    exact kk _ _ _ _ _ _ _ _ hr hS (js_L_s1 (fun z => absurd rfl (z 0)) (fun _ z => z) hl') hrs (js_jr_no hn) (jx_le_r _)
  · cases hr
theorem og_aj2 {m pc i : Nat} (hp : (js_hp m).contains pc = true) (hn : (js_hp m).contains (pc + 2) = false) (hi9 : i < jx_M m) (hd : decode (js_b m) pc = .ok (.astore i, 2)) : js_OkG m pc (o_aj i (pc + 2)) :=
  og_aj hp hn (fun p l e R s mth args below meth c Q H locs cells slots rls lv q hx hb hl kk => lv_astore hx hb hd hl hi9 rfl kk)
theorem og_aj1 {m pc : Nat} {k : Fin 4} {i : Nat} (hi : (k : Nat) = i) (hp : (js_hp m).contains pc = true) (hn : (js_hp m).contains (pc + 1) = false) (hi9 : i < jx_M m) (hd : decode (js_b m) pc = .ok (.astore_n k, 1)) : js_OkG m pc (o_aj i (pc + 1)) :=
  og_aj hp hn (fun p l e R s mth args below meth c Q H locs cells slots rls lv q hx hb hl kk => lv_astore_n hx hb hd hi hl hi9 rfl kk)
/-- the rows of a table against the kinds of exceptions that my machine names -/
def js_hok (m pc : Nat) : List (Nat × Nat × Nat × Nat) → List (String × Nat) → Prop
  | [], [] => True
  | q :: hh, z :: hs => (covers ⟨q.1, q.2.1, q.2.2.1, q.2.2.2⟩ pc = true ∧ q.2.2.2 ≠ 0 ∧ q.2.2.1 = z.2 ∧ (js_hp m).contains z.2 = true) ∧ Jvm.Cond.classLink (js_y m).cls q.2.2.2 z.1 ∈ js_ws ∧ Jvm.Cond.castable z.1 z.1 ∈ lw_tbl ∧ (∀ y ∈ hs, (y.1, z.1) ∈ js_ncl) ∧ js_hok m pc hh hs
  | _, _ => False
theorem js_caught {p : Program} {l : Launch} {e : Env} {R : Room} {s : State} {mth : MethodId} {args : Array Value} {below : List Frame} {meth : Method} {c : Code} {Q : State → Prop} {G : js_G} {m pc : Nat} {H : Heap} {locs : List Loc} {cells slots : Nat} {rls : Array Slot} {rest : List Value} {E : String} {ce : Cell} {q : Addr}
    (hC : js_Cx G m p l s mth args meth c) (hnc : js_Nc s) (hcell : H[q]? = some ce) (hv : ce.vm = .none) (hcl : s.vm.findClass E = some ce.cls) :
    ∀ {hh : List (Nat × Nat × Nat × Nat)} {hs : List (String × Nat)} {pre : List ExceptionTableEntry} {F : Nat → jx_R} {r : jx_O}, c.exceptionTable.toList = pre ++ tableOf hh → (∀ z ∈ pre, covers z pc = false ∨ (z.catchType ≠ 0 ∧ ∃ nm : String, (Jvm.Cond.classLink (js_y m).cls z.catchType nm).before args s = true ∧ va_Nc E nm s)) → js_hok m pc hh hs → jx_hd E hs F none = some r →
      (∀ t, (js_hp m).contains t = true → F t = some r → W p l e R s mth args below meth c H locs cells slots Q (F0 mth t rls [.ref q])) → vx_W p l e R s mth args below meth c H locs cells slots Q (F0 mth pc rls rest) q
  | [], [], pre, F, r, _, _, _, hr, _ => by cases hr
  | [], _ :: _, pre, F, r, _, _, hok, _, _ => hok.elim
  | _ :: _, [], pre, F, r, _, _, hok, _, _ => hok.elim
  | x :: hh, z :: hs, pre, F, r, htab, hpass, hok, hr, kk => by
    obtain ⟨⟨o1, o2, o3, o4⟩, o5, o6, o7, o8⟩ := hok
    obtain ⟨hx, hb, hml, hown, hts, hlk, hE, hB⟩ := id hC
    unfold jx_hd at hr
    by_cases h : E = z.1
    · rw [if_pos h] at hr
      refine vx_catch (own := (js_y m).cls) (name := z.1) (E := E) hown pre ⟨x.1, x.2.1, x.2.2.1, x.2.2.2⟩ (tableOf hh) htab hpass o1 o2 (hts _ o5) ?_ hcell hv hcl ?_
      · rw [h]; exact va_Nw.use rfl (hE.1 _ o6 rfl)
      · show W p l e R s mth args below meth c H locs cells slots Q (F0 mth x.2.2.1 rls [.ref q])
        rw [o3]; exact kk _ o4 hr
    · rw [if_neg h] at hr
      have hin : ∃ y ∈ hs, y.1 = E := by
        rcases jx_hd_i hr with ⟨t, ⟨a, b, e1, -⟩, -⟩ | ⟨z9, -⟩
        · exact ⟨(E, t), by rw [e1]; exact List.mem_append_right _ List.mem_cons_self, rfl⟩
        · cases z9
      obtain ⟨y, hy, rfl⟩ := hin
      refine js_caught hC hnc hcell hv hcl (hh := hh) (hs := hs) (pre := pre ++ [⟨x.1, x.2.1, x.2.2.1, x.2.2.2⟩]) (by rw [htab, List.append_assoc]; rfl) (fun w hw => ?_) o8 hr kk
      rcases List.mem_append.mp hw with hw | hw
      · exact hpass w hw
      · rcases List.mem_cons.mp hw with rfl | hw
        · exact Or.inr ⟨o2, z.1, hts _ o5, hnc _ (o7 y hy)⟩
        · cases hw
theorem js_hok_in {m pc t : Nat} : ∀ {hh : List (Nat × Nat × Nat × Nat)} {hs : List (String × Nat)} {E : String} {F : Nat → jx_R} {r : jx_O}, js_hok m pc hh hs → jx_hd E hs F none = some r → ∃ t, F t = some r
  | _, _, _, _, _, _, hr => by
    rcases jx_hd_i hr with ⟨t, -, h, -⟩ | ⟨z9, -⟩
    · exact ⟨t, h⟩
    · cases z9
theorem og_cV {m pc mj n rt : Nat} (hs9 : js_Site m pc mj n rt) (hk : js_kA mj = true) (hn : (js_hp m).contains (pc + 3) = false) : js_OkG m pc (o_cV mj n rt (pc + 3)) := by
  intro p l e R s mth args below meth c Q G H locs ls st h rls rst C K r c0 s0 w hmn hC htab hnc hS hL hR hj hc hs hRc hRs hRf hRl hw hK hCm hCA hCB hr kk kend
  unfold o_cV at hr
  obtain ⟨us, rest, rfl, hn9, hk9, hr⟩ := jx_tk_i hr
  obtain ⟨hr, -, hrc⟩ := jx_rc_i hr
  rw [List.append_nil] at hr hrc
  rcases jx_cV_i hr with ⟨h2, e1, h3⟩ | ⟨e9, h2, e1, rfl⟩
  · have hle2 := hCm _ _ _ _ e1
    have hle3 := hK _ _ _ _ h3
    obtain ⟨rrest, a', hR2, hrun⟩ := hs9 p l e R s mth args below meth c G H locs ls us rest h rls rst _ (h.2.2.1 - c0) (h.2.2.2 - s0) hC hS hL hR hn9 hk9 hrc hRf hRl (by have a2 := hle2.2.1; have a3 := hle3.2.1; dsimp only at a2 a3 ⊢; omega) (by have a2 := hle2.2.2; have a3 := hle3.2.2; dsimp only at a2 a3 ⊢; omega) (hCA _ _ _ _ hk e1)
    refine js_after hrun hS (fun rv hrv H1 locs1 hS1 => ?_) (fun E q ce H1 locs1 hz => by cases hz)
    have hrv : rv = none := hrv
    subst hrv
    have hk2 := kk _ _ _ h2 H1 locs1 rls _ h3 hS1 hL hR2 (js_jr_no hn) hle2
    have ec : h2.2.2.1 - c0 = h.2.2.1 - c0 + (h2.2.2.1 - h.2.2.1) := by have a2 := hle2.2.1; dsimp only at a2; omega
    have es : h2.2.2.2 - s0 = h.2.2.2 - s0 + (h2.2.2.2 - h.2.2.2) := by have a2 := hle2.2.2; dsimp only at a2; omega
    rw [ec, es] at hk2
    exact hk2
  · cases hw
theorem og_cI {m pc mj n rt : Nat} (hs9 : js_Site m pc mj n rt) (hk : js_kA mj = true) (hn : (js_hp m).contains (pc + 3) = false) : js_OkG m pc (o_cI mj n rt (pc + 3)) := by
  intro p l e R s mth args below meth c Q G H locs ls st h rls rst C K r c0 s0 w hmn hC htab hnc hS hL hR hj hc hs hRc hRs hRf hRl hw hK hCm hCA hCB hr kk kend
  unfold o_cI at hr
  obtain ⟨us, rest, rfl, hn9, hk9, hr⟩ := jx_tk_i hr
  obtain ⟨hr, -, hrc⟩ := jx_rc_i hr
  rw [List.append_nil] at hr hrc
  rcases jx_cI_i hr with ⟨x, h2, e1, h3⟩ | ⟨e9, h2, e1, rfl⟩
  · have hle2 := hCm _ _ _ _ e1
    have hle3 := hK _ _ _ _ h3
    obtain ⟨rrest, a', hR2, hrun⟩ := hs9 p l e R s mth args below meth c G H locs ls us rest h rls rst _ (h.2.2.1 - c0) (h.2.2.2 - s0) hC hS hL hR hn9 hk9 hrc hRf hRl (by have a2 := hle2.2.1; have a3 := hle3.2.1; dsimp only at a2 a3 ⊢; omega) (by have a2 := hle2.2.2; have a3 := hle3.2.2; dsimp only at a2 a3 ⊢; omega) (hCA _ _ _ _ hk e1)
    refine js_after hrun hS (fun rv hrv H1 locs1 hS1 => ?_) (fun E q ce H1 locs1 hz => by cases hz)
    obtain ⟨q, hrv, hq⟩ := hrv
    subst hrv
    have hq : q = .int x := hq
    subst hq
    have hk2 := kk _ _ _ h2 H1 locs1 rls _ h3 hS1 hL (show js_RL G (_ :: rest) (.int x :: rrest) from ⟨rfl, hR2⟩) (js_jr_no hn) hle2
    have ec : h2.2.2.1 - c0 = h.2.2.1 - c0 + (h2.2.2.1 - h.2.2.1) := by have a2 := hle2.2.1; dsimp only at a2; omega
    have es : h2.2.2.2 - s0 = h.2.2.2 - s0 + (h2.2.2.2 - h.2.2.2) := by have a2 := hle2.2.2; dsimp only at a2; omega
    rw [ec, es] at hk2
    exact hk2
  · cases hw
theorem og_cA {m pc mj n rt : Nat} (hs9 : js_Site m pc mj n rt) (hk : js_kA mj = true) (hn : (js_hp m).contains (pc + 3) = false) : js_OkG m pc (o_cA mj n rt (pc + 3)) := by
  intro p l e R s mth args below meth c Q G H locs ls st h rls rst C K r c0 s0 w hmn hC htab hnc hS hL hR hj hc hs hRc hRs hRf hRl hw hK hCm hCA hCB hr kk kend
  unfold o_cA at hr
  obtain ⟨us, rest, rfl, hn9, hk9, hr⟩ := jx_tk_i hr
  obtain ⟨hr, -, hrc⟩ := jx_rc_i hr
  rw [List.append_nil] at hr hrc
  rcases jx_cA_i hr with ⟨x, h2, e1, h3⟩ | ⟨e9, h2, e1, rfl⟩
  · have hle2 := hCm _ _ _ _ e1
    have hle3 := hK _ _ _ _ h3
    obtain ⟨rrest, a', hR2, hrun⟩ := hs9 p l e R s mth args below meth c G H locs ls us rest h rls rst _ (h.2.2.1 - c0) (h.2.2.2 - s0) hC hS hL hR hn9 hk9 hrc hRf hRl (by have a2 := hle2.2.1; have a3 := hle3.2.1; dsimp only at a2 a3 ⊢; omega) (by have a2 := hle2.2.2; have a3 := hle3.2.2; dsimp only at a2 a3 ⊢; omega) (hCA _ _ _ _ hk e1)
    refine js_after hrun hS (fun rv hrv H1 locs1 hS1 => ?_) (fun E q ce H1 locs1 hz => by cases hz)
    obtain ⟨q, hrv, hq⟩ := hrv
    subst hrv
    have hq : q = .ref (js_ad G x) := hq
    subst hq
    have hk2 := kk _ _ _ h2 H1 locs1 rls _ h3 hS1 hL (show js_RL G (_ :: rest) (.ref (js_ad G x) :: rrest) from ⟨rfl, hR2⟩) (js_jr_no hn) hle2
    have ec : h2.2.2.1 - c0 = h.2.2.1 - c0 + (h2.2.2.1 - h.2.2.1) := by have a2 := hle2.2.1; dsimp only at a2; omega
    have es : h2.2.2.2 - s0 = h.2.2.2 - s0 + (h2.2.2.2 - h.2.2.2) := by have a2 := hle2.2.2; dsimp only at a2; omega
    rw [ec, es] at hk2
    exact hk2
  · cases hw
theorem og_hI {m pc mj n rt : Nat} {hs0 : List (String × Nat)} (hs9 : js_Site m pc mj n rt) (hk : js_kA mj = true) (hn : (js_hp m).contains (pc + 3) = false) (hok : js_hok m pc (js_hh m) hs0) : js_OkG m pc (o_hI mj n rt hs0 (pc + 3)) := by
  intro p l e R s mth args below meth c Q G H locs ls st h rls rst C K r c0 s0 w hmn hC htab hnc hS hL hR hj hc hs hRc hRs hRf hRl hw hK hCm hCA hCB hr kk kend
  unfold o_hI at hr
  obtain ⟨us, rest, rfl, hn9, hk9, hr⟩ := jx_tk_i hr
  obtain ⟨hr, -, hrc⟩ := jx_rc_i hr
  rw [List.append_nil] at hr hrc
  rcases jx_hI_i hr with ⟨x, h2, e1, h3⟩ | ⟨e9, h2, e1, h3⟩
  · have hle2 := hCm _ _ _ _ e1
    have hle3 := hK _ _ _ _ h3
    obtain ⟨rrest, a', hR2, hrun⟩ := hs9 p l e R s mth args below meth c G H locs ls us rest h rls rst _ (h.2.2.1 - c0) (h.2.2.2 - s0) hC hS hL hR hn9 hk9 hrc hRf hRl (by have a2 := hle2.2.1; have a3 := hle3.2.1; dsimp only at a2 a3 ⊢; omega) (by have a2 := hle2.2.2; have a3 := hle3.2.2; dsimp only at a2 a3 ⊢; omega) (hCA _ _ _ _ hk e1)
    refine js_after hrun hS (fun rv hrv H1 locs1 hS1 => ?_) (fun E q ce H1 locs1 hz => by cases hz)
    obtain ⟨q, hrv, hq⟩ := hrv
    subst hrv
    have hq : q = .int x := hq
    subst hq
    have hk2 := kk _ _ _ h2 H1 locs1 rls _ h3 hS1 hL (show js_RL G (_ :: rest) (.int x :: rrest) from ⟨rfl, hR2⟩) (js_jr_no hn) hle2
    have ec : h2.2.2.1 - c0 = h.2.2.1 - c0 + (h2.2.2.1 - h.2.2.1) := by have a2 := hle2.2.1; dsimp only at a2; omega
    have es : h2.2.2.2 - s0 = h.2.2.2 - s0 + (h2.2.2.2 - h.2.2.2) := by have a2 := hle2.2.2; dsimp only at a2; omega
    rw [ec, es] at hk2
    exact hk2
  · have hle2 := hCm _ _ _ _ e1
    obtain ⟨t9, h9⟩ := js_hok_in (t := 0) hok h3
    have hle3 := hK _ _ _ _ h9
    obtain ⟨rrest, a', hR2, hrun⟩ := hs9 p l e R s mth args below meth c G H locs ls us rest h rls rst _ (h.2.2.1 - c0) (h.2.2.2 - s0) hC hS hL hR hn9 hk9 hrc hRf hRl (by have a2 := hle2.2.1; have a3 := hle3.2.1; dsimp only at a2 a3 ⊢; omega) (by have a2 := hle2.2.2; have a3 := hle3.2.2; dsimp only at a2 a3 ⊢; omega) (hCA _ _ _ _ hk e1)
    refine js_after hrun hS (fun rv hrv H1 locs1 hS1 => hrv.elim) (fun E q ce H1 locs1 hz hce hcv hcl hS1 => ?_)
    cases hz
    have ec : h2.2.2.1 - c0 = h.2.2.1 - c0 + (h2.2.2.1 - h.2.2.1) := by have a2 := hle2.2.1; dsimp only at a2; omega
    have es : h2.2.2.2 - s0 = h.2.2.2 - s0 + (h2.2.2.2 - h.2.2.2) := by have a2 := hle2.2.2; dsimp only at a2; omega
    refine js_caught hC hnc hce hcv hcl (pre := []) htab (fun z hz => nomatch hz) hok h3 (fun t ht hF => ?_)
    have hk2 := kk t ls [jx_j] h2 H1 locs1 rls [.ref q] hF hS1 hL ⟨rfl, trivial⟩ (fun _ => ⟨q, rfl⟩) hle2
    rw [ec, es] at hk2
    exact hk2
theorem og_cL {m pc mj n rt : Nat} (hs9 : js_Site m pc mj n rt) (hk : js_kA mj = true) (hn : (js_hp m).contains (pc + 3) = false) : js_OkG m pc (o_cL mj n rt (pc + 3)) := by
  intro p l e R s mth args below meth c Q G H locs ls st h rls rst C K r c0 s0 w hmn hC htab hnc hS hL hR hj hc hs hRc hRs hRf hRl hw hK hCm hCA hCB hr kk kend
  unfold o_cL at hr
  obtain ⟨us, rest, rfl, hn9, hk9, hr⟩ := jx_tk_i hr
  obtain ⟨hr, -, hrc⟩ := jx_rc_i hr
  rw [List.append_nil] at hr hrc
  rcases jx_cL_i hr with ⟨x, h2, e1, h3⟩ | ⟨e9, h2, e1, rfl⟩
  · have hle2 := hCm _ _ _ _ e1
    have hle3 := hK _ _ _ _ h3
    obtain ⟨rrest, a', hR2, hrun⟩ := hs9 p l e R s mth args below meth c G H locs ls us rest h rls rst _ (h.2.2.1 - c0) (h.2.2.2 - s0) hC hS hL hR hn9 hk9 hrc hRf hRl (by have a2 := hle2.2.1; have a3 := hle3.2.1; dsimp only at a2 a3 ⊢; omega) (by have a2 := hle2.2.2; have a3 := hle3.2.2; dsimp only at a2 a3 ⊢; omega) (hCA _ _ _ _ hk e1)
    refine js_after hrun hS (fun rv hrv H1 locs1 hS1 => ?_) (fun E q ce H1 locs1 hz => by cases hz)
    obtain ⟨q, hrv, hq⟩ := hrv
    subst hrv
    have hq : q = .long x := hq
    subst hq
    have hk2 := kk _ _ _ h2 H1 locs1 rls _ h3 hS1 hL (show js_RL G (_ :: rest) (.long x :: rrest) from ⟨rfl, hR2⟩) (js_jr_no hn) hle2
    have ec : h2.2.2.1 - c0 = h.2.2.1 - c0 + (h2.2.2.1 - h.2.2.1) := by have a2 := hle2.2.1; dsimp only at a2; omega
    have es : h2.2.2.2 - s0 = h.2.2.2 - s0 + (h2.2.2.2 - h.2.2.2) := by have a2 := hle2.2.2; dsimp only at a2; omega
    rw [ec, es] at hk2
    exact hk2
  · cases hw
theorem og_hL {m pc mj n rt : Nat} {hs0 : List (String × Nat)} (hs9 : js_Site m pc mj n rt) (hk : js_kA mj = true) (hn : (js_hp m).contains (pc + 3) = false) (hok : js_hok m pc (js_hh m) hs0) : js_OkG m pc (o_hL mj n rt hs0 (pc + 3)) := by
  intro p l e R s mth args below meth c Q G H locs ls st h rls rst C K r c0 s0 w hmn hC htab hnc hS hL hR hj hc hs hRc hRs hRf hRl hw hK hCm hCA hCB hr kk kend
  unfold o_hL at hr
  obtain ⟨us, rest, rfl, hn9, hk9, hr⟩ := jx_tk_i hr
  obtain ⟨hr, -, hrc⟩ := jx_rc_i hr
  rw [List.append_nil] at hr hrc
  rcases jx_hL_i hr with ⟨x, h2, e1, h3⟩ | ⟨e9, h2, e1, h3⟩
  · have hle2 := hCm _ _ _ _ e1
    have hle3 := hK _ _ _ _ h3
    obtain ⟨rrest, a', hR2, hrun⟩ := hs9 p l e R s mth args below meth c G H locs ls us rest h rls rst _ (h.2.2.1 - c0) (h.2.2.2 - s0) hC hS hL hR hn9 hk9 hrc hRf hRl (by have a2 := hle2.2.1; have a3 := hle3.2.1; dsimp only at a2 a3 ⊢; omega) (by have a2 := hle2.2.2; have a3 := hle3.2.2; dsimp only at a2 a3 ⊢; omega) (hCA _ _ _ _ hk e1)
    refine js_after hrun hS (fun rv hrv H1 locs1 hS1 => ?_) (fun E q ce H1 locs1 hz => by cases hz)
    obtain ⟨q, hrv, hq⟩ := hrv
    subst hrv
    have hq : q = .long x := hq
    subst hq
    have hk2 := kk _ _ _ h2 H1 locs1 rls _ h3 hS1 hL (show js_RL G (_ :: rest) (.long x :: rrest) from ⟨rfl, hR2⟩) (js_jr_no hn) hle2
    have ec : h2.2.2.1 - c0 = h.2.2.1 - c0 + (h2.2.2.1 - h.2.2.1) := by have a2 := hle2.2.1; dsimp only at a2; omega
    have es : h2.2.2.2 - s0 = h.2.2.2 - s0 + (h2.2.2.2 - h.2.2.2) := by have a2 := hle2.2.2; dsimp only at a2; omega
    rw [ec, es] at hk2
    exact hk2
  · have hle2 := hCm _ _ _ _ e1
    obtain ⟨t9, h9⟩ := js_hok_in (t := 0) hok h3
    have hle3 := hK _ _ _ _ h9
    obtain ⟨rrest, a', hR2, hrun⟩ := hs9 p l e R s mth args below meth c G H locs ls us rest h rls rst _ (h.2.2.1 - c0) (h.2.2.2 - s0) hC hS hL hR hn9 hk9 hrc hRf hRl (by have a2 := hle2.2.1; have a3 := hle3.2.1; dsimp only at a2 a3 ⊢; omega) (by have a2 := hle2.2.2; have a3 := hle3.2.2; dsimp only at a2 a3 ⊢; omega) (hCA _ _ _ _ hk e1)
    refine js_after hrun hS (fun rv hrv H1 locs1 hS1 => hrv.elim) (fun E q ce H1 locs1 hz hce hcv hcl hS1 => ?_)
    cases hz
    have ec : h2.2.2.1 - c0 = h.2.2.1 - c0 + (h2.2.2.1 - h.2.2.1) := by have a2 := hle2.2.1; dsimp only at a2; omega
    have es : h2.2.2.2 - s0 = h.2.2.2 - s0 + (h2.2.2.2 - h.2.2.2) := by have a2 := hle2.2.2; dsimp only at a2; omega
    refine js_caught hC hnc hce hcv hcl (pre := []) htab (fun z hz => nomatch hz) hok h3 (fun t ht hF => ?_)
    have hk2 := kk t ls [jx_j] h2 H1 locs1 rls [.ref q] hF hS1 hL ⟨rfl, trivial⟩ (fun _ => ⟨q, rfl⟩) hle2
    rw [ec, es] at hk2
    exact hk2
theorem og_cF {m pc mj n rt : Nat} (hs9 : js_Site m pc mj n rt) (hk : js_kA mj = true) (hn : (js_hp m).contains (pc + 3) = false) : js_OkG m pc (o_cF mj n rt (pc + 3)) := by
  intro p l e R s mth args below meth c Q G H locs ls st h rls rst C K r c0 s0 w hmn hC htab hnc hS hL hR hj hc hs hRc hRs hRf hRl hw hK hCm hCA hCB hr kk kend
  unfold o_cF at hr
  obtain ⟨us, rest, rfl, hn9, hk9, hr⟩ := jx_tk_i hr
  obtain ⟨hr, -, hrc⟩ := jx_rc_i hr
  rw [List.append_nil] at hr hrc
  rcases jx_cF_i hr with ⟨x, h2, e1, h3⟩ | ⟨e9, h2, e1, rfl⟩
  · have hle2 := hCm _ _ _ _ e1
    have hle3 := hK _ _ _ _ h3
    obtain ⟨rrest, a', hR2, hrun⟩ := hs9 p l e R s mth args below meth c G H locs ls us rest h rls rst _ (h.2.2.1 - c0) (h.2.2.2 - s0) hC hS hL hR hn9 hk9 hrc hRf hRl (by have a2 := hle2.2.1; have a3 := hle3.2.1; dsimp only at a2 a3 ⊢; omega) (by have a2 := hle2.2.2; have a3 := hle3.2.2; dsimp only at a2 a3 ⊢; omega) (hCA _ _ _ _ hk e1)
    refine js_after hrun hS (fun rv hrv H1 locs1 hS1 => ?_) (fun E q ce H1 locs1 hz => by cases hz)
    obtain ⟨q, hrv, hq⟩ := hrv
    subst hrv
    have hq : q = .float x := hq
    subst hq
    have hk2 := kk _ _ _ h2 H1 locs1 rls _ h3 hS1 hL (show js_RL G (_ :: rest) (.float x :: rrest) from ⟨rfl, hR2⟩) (js_jr_no hn) hle2
    have ec : h2.2.2.1 - c0 = h.2.2.1 - c0 + (h2.2.2.1 - h.2.2.1) := by have a2 := hle2.2.1; dsimp only at a2; omega
    have es : h2.2.2.2 - s0 = h.2.2.2 - s0 + (h2.2.2.2 - h.2.2.2) := by have a2 := hle2.2.2; dsimp only at a2; omega
    rw [ec, es] at hk2
    exact hk2
  · cases hw
theorem og_hF {m pc mj n rt : Nat} {hs0 : List (String × Nat)} (hs9 : js_Site m pc mj n rt) (hk : js_kA mj = true) (hn : (js_hp m).contains (pc + 3) = false) (hok : js_hok m pc (js_hh m) hs0) : js_OkG m pc (o_hF mj n rt hs0 (pc + 3)) := by
  intro p l e R s mth args below meth c Q G H locs ls st h rls rst C K r c0 s0 w hmn hC htab hnc hS hL hR hj hc hs hRc hRs hRf hRl hw hK hCm hCA hCB hr kk kend
  unfold o_hF at hr
  obtain ⟨us, rest, rfl, hn9, hk9, hr⟩ := jx_tk_i hr
  obtain ⟨hr, -, hrc⟩ := jx_rc_i hr
  rw [List.append_nil] at hr hrc
  rcases jx_hF_i hr with ⟨x, h2, e1, h3⟩ | ⟨e9, h2, e1, h3⟩
  · have hle2 := hCm _ _ _ _ e1
    have hle3 := hK _ _ _ _ h3
    obtain ⟨rrest, a', hR2, hrun⟩ := hs9 p l e R s mth args below meth c G H locs ls us rest h rls rst _ (h.2.2.1 - c0) (h.2.2.2 - s0) hC hS hL hR hn9 hk9 hrc hRf hRl (by have a2 := hle2.2.1; have a3 := hle3.2.1; dsimp only at a2 a3 ⊢; omega) (by have a2 := hle2.2.2; have a3 := hle3.2.2; dsimp only at a2 a3 ⊢; omega) (hCA _ _ _ _ hk e1)
    refine js_after hrun hS (fun rv hrv H1 locs1 hS1 => ?_) (fun E q ce H1 locs1 hz => by cases hz)
    obtain ⟨q, hrv, hq⟩ := hrv
    subst hrv
    have hq : q = .float x := hq
    subst hq
    have hk2 := kk _ _ _ h2 H1 locs1 rls _ h3 hS1 hL (show js_RL G (_ :: rest) (.float x :: rrest) from ⟨rfl, hR2⟩) (js_jr_no hn) hle2
    have ec : h2.2.2.1 - c0 = h.2.2.1 - c0 + (h2.2.2.1 - h.2.2.1) := by have a2 := hle2.2.1; dsimp only at a2; omega
    have es : h2.2.2.2 - s0 = h.2.2.2 - s0 + (h2.2.2.2 - h.2.2.2) := by have a2 := hle2.2.2; dsimp only at a2; omega
    rw [ec, es] at hk2
    exact hk2
  · have hle2 := hCm _ _ _ _ e1
    obtain ⟨t9, h9⟩ := js_hok_in (t := 0) hok h3
    have hle3 := hK _ _ _ _ h9
    obtain ⟨rrest, a', hR2, hrun⟩ := hs9 p l e R s mth args below meth c G H locs ls us rest h rls rst _ (h.2.2.1 - c0) (h.2.2.2 - s0) hC hS hL hR hn9 hk9 hrc hRf hRl (by have a2 := hle2.2.1; have a3 := hle3.2.1; dsimp only at a2 a3 ⊢; omega) (by have a2 := hle2.2.2; have a3 := hle3.2.2; dsimp only at a2 a3 ⊢; omega) (hCA _ _ _ _ hk e1)
    refine js_after hrun hS (fun rv hrv H1 locs1 hS1 => hrv.elim) (fun E q ce H1 locs1 hz hce hcv hcl hS1 => ?_)
    cases hz
    have ec : h2.2.2.1 - c0 = h.2.2.1 - c0 + (h2.2.2.1 - h.2.2.1) := by have a2 := hle2.2.1; dsimp only at a2; omega
    have es : h2.2.2.2 - s0 = h.2.2.2 - s0 + (h2.2.2.2 - h.2.2.2) := by have a2 := hle2.2.2; dsimp only at a2; omega
    refine js_caught hC hnc hce hcv hcl (pre := []) htab (fun z hz => nomatch hz) hok h3 (fun t ht hF => ?_)
    have hk2 := kk t ls [jx_j] h2 H1 locs1 rls [.ref q] hF hS1 hL ⟨rfl, trivial⟩ (fun _ => ⟨q, rfl⟩) hle2
    rw [ec, es] at hk2
    exact hk2
theorem og_cD {m pc mj n rt : Nat} (hs9 : js_Site m pc mj n rt) (hk : js_kA mj = true) (hn : (js_hp m).contains (pc + 3) = false) : js_OkG m pc (o_cD mj n rt (pc + 3)) := by
  intro p l e R s mth args below meth c Q G H locs ls st h rls rst C K r c0 s0 w hmn hC htab hnc hS hL hR hj hc hs hRc hRs hRf hRl hw hK hCm hCA hCB hr kk kend
  unfold o_cD at hr
  obtain ⟨us, rest, rfl, hn9, hk9, hr⟩ := jx_tk_i hr
  obtain ⟨hr, -, hrc⟩ := jx_rc_i hr
  rw [List.append_nil] at hr hrc
  rcases jx_cD_i hr with ⟨x, h2, e1, h3⟩ | ⟨e9, h2, e1, rfl⟩
  · have hle2 := hCm _ _ _ _ e1
    have hle3 := hK _ _ _ _ h3
    obtain ⟨rrest, a', hR2, hrun⟩ := hs9 p l e R s mth args below meth c G H locs ls us rest h rls rst _ (h.2.2.1 - c0) (h.2.2.2 - s0) hC hS hL hR hn9 hk9 hrc hRf hRl (by have a2 := hle2.2.1; have a3 := hle3.2.1; dsimp only at a2 a3 ⊢; omega) (by have a2 := hle2.2.2; have a3 := hle3.2.2; dsimp only at a2 a3 ⊢; omega) (hCA _ _ _ _ hk e1)
    refine js_after hrun hS (fun rv hrv H1 locs1 hS1 => ?_) (fun E q ce H1 locs1 hz => by cases hz)
    obtain ⟨q, hrv, hq⟩ := hrv
    subst hrv
    have hq : q = .double x := hq
    subst hq
    have hk2 := kk _ _ _ h2 H1 locs1 rls _ h3 hS1 hL (show js_RL G (_ :: rest) (.double x :: rrest) from ⟨rfl, hR2⟩) (js_jr_no hn) hle2
    have ec : h2.2.2.1 - c0 = h.2.2.1 - c0 + (h2.2.2.1 - h.2.2.1) := by have a2 := hle2.2.1; dsimp only at a2; omega
    have es : h2.2.2.2 - s0 = h.2.2.2 - s0 + (h2.2.2.2 - h.2.2.2) := by have a2 := hle2.2.2; dsimp only at a2; omega
    rw [ec, es] at hk2
    exact hk2
  · cases hw
theorem og_hD {m pc mj n rt : Nat} {hs0 : List (String × Nat)} (hs9 : js_Site m pc mj n rt) (hk : js_kA mj = true) (hn : (js_hp m).contains (pc + 3) = false) (hok : js_hok m pc (js_hh m) hs0) : js_OkG m pc (o_hD mj n rt hs0 (pc + 3)) := by
  intro p l e R s mth args below meth c Q G H locs ls st h rls rst C K r c0 s0 w hmn hC htab hnc hS hL hR hj hc hs hRc hRs hRf hRl hw hK hCm hCA hCB hr kk kend
  unfold o_hD at hr
  obtain ⟨us, rest, rfl, hn9, hk9, hr⟩ := jx_tk_i hr
  obtain ⟨hr, -, hrc⟩ := jx_rc_i hr
  rw [List.append_nil] at hr hrc
  rcases jx_hD_i hr with ⟨x, h2, e1, h3⟩ | ⟨e9, h2, e1, h3⟩
  · have hle2 := hCm _ _ _ _ e1
    have hle3 := hK _ _ _ _ h3
    obtain ⟨rrest, a', hR2, hrun⟩ := hs9 p l e R s mth args below meth c G H locs ls us rest h rls rst _ (h.2.2.1 - c0) (h.2.2.2 - s0) hC hS hL hR hn9 hk9 hrc hRf hRl (by have a2 := hle2.2.1; have a3 := hle3.2.1; dsimp only at a2 a3 ⊢; omega) (by have a2 := hle2.2.2; have a3 := hle3.2.2; dsimp only at a2 a3 ⊢; omega) (hCA _ _ _ _ hk e1)
    refine js_after hrun hS (fun rv hrv H1 locs1 hS1 => ?_) (fun E q ce H1 locs1 hz => by cases hz)
    obtain ⟨q, hrv, hq⟩ := hrv
    subst hrv
    have hq : q = .double x := hq
    subst hq
    have hk2 := kk _ _ _ h2 H1 locs1 rls _ h3 hS1 hL (show js_RL G (_ :: rest) (.double x :: rrest) from ⟨rfl, hR2⟩) (js_jr_no hn) hle2
    have ec : h2.2.2.1 - c0 = h.2.2.1 - c0 + (h2.2.2.1 - h.2.2.1) := by have a2 := hle2.2.1; dsimp only at a2; omega
    have es : h2.2.2.2 - s0 = h.2.2.2 - s0 + (h2.2.2.2 - h.2.2.2) := by have a2 := hle2.2.2; dsimp only at a2; omega
    rw [ec, es] at hk2
    exact hk2
  · have hle2 := hCm _ _ _ _ e1
    obtain ⟨t9, h9⟩ := js_hok_in (t := 0) hok h3
    have hle3 := hK _ _ _ _ h9
    obtain ⟨rrest, a', hR2, hrun⟩ := hs9 p l e R s mth args below meth c G H locs ls us rest h rls rst _ (h.2.2.1 - c0) (h.2.2.2 - s0) hC hS hL hR hn9 hk9 hrc hRf hRl (by have a2 := hle2.2.1; have a3 := hle3.2.1; dsimp only at a2 a3 ⊢; omega) (by have a2 := hle2.2.2; have a3 := hle3.2.2; dsimp only at a2 a3 ⊢; omega) (hCA _ _ _ _ hk e1)
    refine js_after hrun hS (fun rv hrv H1 locs1 hS1 => hrv.elim) (fun E q ce H1 locs1 hz hce hcv hcl hS1 => ?_)
    cases hz
    have ec : h2.2.2.1 - c0 = h.2.2.1 - c0 + (h2.2.2.1 - h.2.2.1) := by have a2 := hle2.2.1; dsimp only at a2; omega
    have es : h2.2.2.2 - s0 = h.2.2.2 - s0 + (h2.2.2.2 - h.2.2.2) := by have a2 := hle2.2.2; dsimp only at a2; omega
    refine js_caught hC hnc hce hcv hcl (pre := []) htab (fun z hz => nomatch hz) hok h3 (fun t ht hF => ?_)
    have hk2 := kk t ls [jx_j] h2 H1 locs1 rls [.ref q] hF hS1 hL ⟨rfl, trivial⟩ (fun _ => ⟨q, rfl⟩) hle2
    rw [ec, es] at hk2
    exact hk2
/-- what a call of a method that always returns owes -/
def js_lkB (m mj n : Nat) : Prop := js_codeW mj ∈ js_ws ∧ Jvm.Cond.initialized (js_y mj).cls ∈ js_ws ∧ ((js_y mj).cls ≠ "java/lang/invoke/MethodHandle" ∧ (js_y mj).cls ≠ "java/lang/invoke/VarHandle" ∧ (parseMethodDescriptor (js_y mj).desc).map (fun d => d.parameters.length) = some n) ∧ js_d mj < js_d m ∧ jx_M mj ≤ 21
theorem js_blindB {G : js_G} {as : List Value} {h : jx_H} : FrameBlind (js_PcB G as h) := fun a U g mk hp => ⟨js_blind a U g mk hp.1, fun z hz => va_Nc.moved (u := U) (by exact (State.WarmedH.refl U).alike) (hp.2 z hz)⟩
theorem js_NcW {s U : State} (h : js_Nc s) (hW : s.WarmedH U.vm) : js_Nc U := fun z hz => va_Nc.moved hW.alike (h z hz)
/-- behind a call that always returns -/
theorem js_afterB {p : Program} {l : Launch} {e : Env} {R : Room} {s : State} {mth : MethodId} {args : Array Value} {below : List Frame} {meth : Method} {c : Code} {H : Heap} {locs : List Loc} {Q : State → Prop} {G : js_G} {h : jx_H} {o : jx_O} {pc : Nat} {rls : Array Slot} {st0 rest : List Value} {cells slots mc ms : Nat} {a' : Array Value}
    (hrun : va_Run p l e R s mth args below meth c H locs cells slots mc ms (F0 mth pc rls st0) rest (js_Q1 G o a') (js_A G)) (hS : js_S G s H locs h)
    (kkR : ∀ rv, js_rv G o.1 rv → ∀ (H1 : Heap) (locs1 : List Loc), js_S G s H1 locs1 o.2 → W p l e R s mth args below meth c H1 locs1 (cells + mc) (slots + ms) Q (F0 mth (pc + 3) rls (rv.toList ++ rest))) :
    W p l e R s mth args below meth c H locs cells slots Q (F0 mth pc rls st0) := by
  intro T hT X
  obtain ⟨v, st₀, t, T', L, h0, X', hL, e1, e2, ⟨⟨rv, hv, hrv⟩, hH, hF⟩, st⟩ := hrun T hT X
  have key : js_S G s T'.heap (locs ++ L) o.2 := by
    rw [e1]
    obtain ⟨f1, f2⟩ := hF
    rw [h0] at f1 f2
    refine ⟨hH, Nat.le_trans hS.2.1 f1, fun q k1 k2 => (f2 q (Nat.lt_of_lt_of_le k1 hS.2.1) k2).trans (hS.2.2.1 q k1 k2), fun q hq => ?_⟩
    rcases List.mem_append.mp hq with z | z
    · exact hS.2.2.2 q z
    · exact hL q z
  cases hv
  obtain ⟨t2, a1, b1⟩ := kkR v hrv T'.heap (locs ++ L) key T' rfl X'
  exact ⟨t2, st t2 a1, b1⟩
theorem og_sIW {m pc mj n idx : Nat} (hcw : js_codeW mj = Jvm.Cond.codeWith (js_y mj) (js_b mj) (jx_M mj) (js_t mj) (js_hh mj)) (hnp : (js_hp m).contains (pc + 3) = false) (hlk9 : js_lkB m mj n) (hk : js_kB mj = true) (hw1 : Jvm.Cond.methodLink (js_y m).cls idx (js_y mj) ∈ js_ws) (hw2 : Jvm.Cond.static (js_y mj) ∈ js_ws)
    (hd : decode (js_b m) pc = .ok (.invokestatic idx, 3)) : js_OkG m pc (o_cI mj n 0 (pc + 3)) := by
  intro p l e R s mth args below meth c Q G H locs ls st h rls rst C K r c0 s0 w hmn hC htab hnc hS hL hR hj hc hs hRc hRs hRf hRl hw hK hCm hCA hCB hr kk kend
  obtain ⟨hx, hb, hml, hown, hts, hlk, hE, hB⟩ := id hC
  unfold o_cI at hr
  obtain ⟨us, rest, rfl, hn9, hk9, hr⟩ := jx_tk_i hr
  obtain ⟨hr, -, -⟩ := jx_rc_i hr
  rw [List.append_nil] at hr
  rcases jx_cI_i hr with ⟨x, h2, e1, h3⟩ | ⟨e9, h2, e1, rfl⟩
  · have hle2 := hCm _ _ _ _ e1
    have hle3 := hK _ _ _ _ h3
    have hM := hCB _ _ _ _ _ hk e1 rfl
    obtain ⟨rus, rrest, rfl, hR1, hR2⟩ := js_RL_app hR
    have hrr := js_RL_rev hR1
    have hcat := js_cat_sum hR2
    have hlen : rus.length = n := by rw [← js_RL_len hR1, hn9]
    have hG : GoodIn js_ws (va_wsS (js_y m).cls idx (js_y mj) (js_codeW mj :: js_ws)) := by
      intro w hw
      have h9 : w ∈ js_ws := by
        rcases List.mem_append.mp hw with z | z
        · simp only [List.mem_cons, List.not_mem_nil, or_false] at z
          rcases z with rfl | rfl | rfl
          · exact hw1
          · exact hw2
          · exact hlk9.2.1
        · rcases List.mem_cons.mp z with rfl | z
          · exact hlk9.1
          · exact z
      exact ⟨h9, good_of_word (List.mem_filter.mp h9).2⟩
    have hrm : (js_rm mj (h2.2.2.1 - h.2.2.1) (h2.2.2.2 - h.2.2.2)).frames + 1 ≤ R.frames ∧ 8 + (jx_M mj + 11) + (js_rm mj (h2.2.2.1 - h.2.2.1) (h2.2.2.2 - h.2.2.2)).locals ≤ R.locals := by
      obtain ⟨-, -, -, g1, g2⟩ := hlk9
      show 6 + js_d mj + 1 ≤ R.frames ∧ 8 + (jx_M mj + 11) + (100 + 40 * js_d mj) ≤ R.locals
      omega
    have hrun := vx_runSW (As := rus.reverse) (rest := rrest) (H := H) (locs := locs) (cells := h.2.2.1 - c0) (slots := h.2.2.2 - s0) (below := below) (e := e) (meth := meth) (g := F0 mth pc rls (rus ++ rrest)) ⟨hx, hb, hml, hown, hts⟩ hM (vx_cwSW (hh := js_hh mj) n hts hG (by rw [hcw]) rfl rfl hlk9.2.2.1 hrm) ⟨js_blindB, fun U hU hW => ⟨js_pre (rs := rus.reverse) hE hS hrr hU hW, js_NcW hnc hW⟩⟩ rfl (by rw [List.length_reverse]; exact hlen) (by show rls.size = _; exact hL.1) (by show rus ++ rrest = _; rw [List.reverse_reverse]) (by show 2 * 0 + _ ≤ 8; omega) hd (by constructor <;> first | (have a2 := hle2.2.1; have a3 := hle3.2.1; dsimp only at a2 a3 ⊢; omega) | (have a2 := hle2.2.2; have a3 := hle3.2.2; dsimp only at a2 a3 ⊢; omega))
    refine js_afterB hrun hS (fun rv hrv H1 locs1 hS1 => ?_)
    obtain ⟨q, hrv, hq⟩ := hrv
    subst hrv
    have hq : q = .int x := hq
    subst hq
    have hk2 := kk _ _ _ h2 H1 locs1 rls _ h3 hS1 hL (show js_RL G (_ :: rest) (.int x :: rrest) from ⟨rfl, hR2⟩) (js_jr_no hnp) hle2
    have ec : h2.2.2.1 - c0 = h.2.2.1 - c0 + (h2.2.2.1 - h.2.2.1) := by have a2 := hle2.2.1; dsimp only at a2; omega
    have es : h2.2.2.2 - s0 = h.2.2.2 - s0 + (h2.2.2.2 - h.2.2.2) := by have a2 := hle2.2.2; dsimp only at a2; omega
    rw [ec, es] at hk2
    exact hk2
  · cases hw
theorem og_sLW {m pc mj n idx : Nat} (hcw : js_codeW mj = Jvm.Cond.codeWith (js_y mj) (js_b mj) (jx_M mj) (js_t mj) (js_hh mj)) (hnp : (js_hp m).contains (pc + 3) = false) (hlk9 : js_lkB m mj n) (hk : js_kB mj = true) (hw1 : Jvm.Cond.methodLink (js_y m).cls idx (js_y mj) ∈ js_ws) (hw2 : Jvm.Cond.static (js_y mj) ∈ js_ws)
    (hd : decode (js_b m) pc = .ok (.invokestatic idx, 3)) : js_OkG m pc (o_cL mj n 0 (pc + 3)) := by
  intro p l e R s mth args below meth c Q G H locs ls st h rls rst C K r c0 s0 w hmn hC htab hnc hS hL hR hj hc hs hRc hRs hRf hRl hw hK hCm hCA hCB hr kk kend
  obtain ⟨hx, hb, hml, hown, hts, hlk, hE, hB⟩ := id hC
  unfold o_cL at hr
  obtain ⟨us, rest, rfl, hn9, hk9, hr⟩ := jx_tk_i hr
  obtain ⟨hr, -, -⟩ := jx_rc_i hr
  rw [List.append_nil] at hr
  rcases jx_cL_i hr with ⟨x, h2, e1, h3⟩ | ⟨e9, h2, e1, rfl⟩
  · have hle2 := hCm _ _ _ _ e1
    have hle3 := hK _ _ _ _ h3
    have hM := hCB _ _ _ _ _ hk e1 rfl
    obtain ⟨rus, rrest, rfl, hR1, hR2⟩ := js_RL_app hR
    have hrr := js_RL_rev hR1
    have hcat := js_cat_sum hR2
    have hlen : rus.length = n := by rw [← js_RL_len hR1, hn9]
    have hG : GoodIn js_ws (va_wsS (js_y m).cls idx (js_y mj) (js_codeW mj :: js_ws)) := by
      intro w hw
      have h9 : w ∈ js_ws := by
        rcases List.mem_append.mp hw with z | z
        · simp only [List.mem_cons, List.not_mem_nil, or_false] at z
          rcases z with rfl | rfl | rfl
          · exact hw1
          · exact hw2
          · exact hlk9.2.1
        · rcases List.mem_cons.mp z with rfl | z
          · exact hlk9.1
          · exact z
      exact ⟨h9, good_of_word (List.mem_filter.mp h9).2⟩
    have hrm : (js_rm mj (h2.2.2.1 - h.2.2.1) (h2.2.2.2 - h.2.2.2)).frames + 1 ≤ R.frames ∧ 8 + (jx_M mj + 11) + (js_rm mj (h2.2.2.1 - h.2.2.1) (h2.2.2.2 - h.2.2.2)).locals ≤ R.locals := by
      obtain ⟨-, -, -, g1, g2⟩ := hlk9
      show 6 + js_d mj + 1 ≤ R.frames ∧ 8 + (jx_M mj + 11) + (100 + 40 * js_d mj) ≤ R.locals
      omega
    have hrun := vx_runSW (As := rus.reverse) (rest := rrest) (H := H) (locs := locs) (cells := h.2.2.1 - c0) (slots := h.2.2.2 - s0) (below := below) (e := e) (meth := meth) (g := F0 mth pc rls (rus ++ rrest)) ⟨hx, hb, hml, hown, hts⟩ hM (vx_cwSW (hh := js_hh mj) n hts hG (by rw [hcw]) rfl rfl hlk9.2.2.1 hrm) ⟨js_blindB, fun U hU hW => ⟨js_pre (rs := rus.reverse) hE hS hrr hU hW, js_NcW hnc hW⟩⟩ rfl (by rw [List.length_reverse]; exact hlen) (by show rls.size = _; exact hL.1) (by show rus ++ rrest = _; rw [List.reverse_reverse]) (by show 2 * 0 + _ ≤ 8; omega) hd (by constructor <;> first | (have a2 := hle2.2.1; have a3 := hle3.2.1; dsimp only at a2 a3 ⊢; omega) | (have a2 := hle2.2.2; have a3 := hle3.2.2; dsimp only at a2 a3 ⊢; omega))
    refine js_afterB hrun hS (fun rv hrv H1 locs1 hS1 => ?_)
    obtain ⟨q, hrv, hq⟩ := hrv
    subst hrv
    have hq : q = .long x := hq
    subst hq
    have hk2 := kk _ _ _ h2 H1 locs1 rls _ h3 hS1 hL (show js_RL G (_ :: rest) (.long x :: rrest) from ⟨rfl, hR2⟩) (js_jr_no hnp) hle2
    have ec : h2.2.2.1 - c0 = h.2.2.1 - c0 + (h2.2.2.1 - h.2.2.1) := by have a2 := hle2.2.1; dsimp only at a2; omega
    have es : h2.2.2.2 - s0 = h.2.2.2 - s0 + (h2.2.2.2 - h.2.2.2) := by have a2 := hle2.2.2; dsimp only at a2; omega
    rw [ec, es] at hk2
    exact hk2
  · cases hw
theorem og_sIP {m pc mj n idx : Nat} (hcw : js_codeW mj = js_code mj) (hnp : (js_hp m).contains (pc + 3) = false) (hlk9 : js_lkB m mj n) (hk : js_kB mj = true) (hw1 : Jvm.Cond.methodLink (js_y m).cls idx (js_y mj) ∈ js_ws) (hw2 : Jvm.Cond.static (js_y mj) ∈ js_ws)
    (hd : decode (js_b m) pc = .ok (.invokestatic idx, 3)) : js_OkG m pc (o_cI mj n 0 (pc + 3)) := by
  intro p l e R s mth args below meth c Q G H locs ls st h rls rst C K r c0 s0 w hmn hC htab hnc hS hL hR hj hc hs hRc hRs hRf hRl hw hK hCm hCA hCB hr kk kend
  obtain ⟨hx, hb, hml, hown, hts, hlk, hE, hB⟩ := id hC
  unfold o_cI at hr
  obtain ⟨us, rest, rfl, hn9, hk9, hr⟩ := jx_tk_i hr
  obtain ⟨hr, -, -⟩ := jx_rc_i hr
  rw [List.append_nil] at hr
  rcases jx_cI_i hr with ⟨x, h2, e1, h3⟩ | ⟨e9, h2, e1, rfl⟩
  · have hle2 := hCm _ _ _ _ e1
    have hle3 := hK _ _ _ _ h3
    have hM := hCB _ _ _ _ _ hk e1 rfl
    obtain ⟨rus, rrest, rfl, hR1, hR2⟩ := js_RL_app hR
    have hrr := js_RL_rev hR1
    have hcat := js_cat_sum hR2
    have hlen : rus.length = n := by rw [← js_RL_len hR1, hn9]
    have hrm : (js_rm mj (h2.2.2.1 - h.2.2.1) (h2.2.2.2 - h.2.2.2)).frames + 1 ≤ R.frames ∧ 8 + (jx_M mj + 11) + (js_rm mj (h2.2.2.1 - h.2.2.1) (h2.2.2.2 - h.2.2.2)).locals ≤ R.locals := by
      obtain ⟨-, -, -, g1, g2⟩ := hlk9
      show 6 + js_d mj + 1 ≤ R.frames ∧ 8 + (jx_M mj + 11) + (100 + 40 * js_d mj) ≤ R.locals
      omega
    have hrun := va_runS (As := rus.reverse) (rest := rrest) (H := H) (locs := locs) (cells := h.2.2.1 - c0) (slots := h.2.2.2 - s0) (below := below) (e := e) (meth := meth) (g := F0 mth pc rls (rus ++ rrest)) ⟨hx, hb, hml, hown, hts⟩ hM ⟨callB_of (bytes := js_b mj) (maxL := jx_M mj) (ret := js_t mj) n hts (by rw [hcw]; exact js_gi (hcw ▸ hlk9.1)) (by rw [hcw]; rfl) rfl rfl (hts _ hlk9.2.1) (hts _ hw1) hlk9.2.2.1 hrm, hts _ hw2⟩ ⟨js_blindB, fun U hU hW => ⟨js_pre (rs := rus.reverse) hE hS hrr hU hW, js_NcW hnc hW⟩⟩ rfl (by rw [List.length_reverse]; exact hlen) (by show rls.size = _; exact hL.1) (by show rus ++ rrest = _; rw [List.reverse_reverse]) (by show 2 * 0 + _ ≤ 8; omega) hd (by constructor <;> first | (have a2 := hle2.2.1; have a3 := hle3.2.1; dsimp only at a2 a3 ⊢; omega) | (have a2 := hle2.2.2; have a3 := hle3.2.2; dsimp only at a2 a3 ⊢; omega))
    refine js_afterB hrun hS (fun rv hrv H1 locs1 hS1 => ?_)
    obtain ⟨q, hrv, hq⟩ := hrv
    subst hrv
    have hq : q = .int x := hq
    subst hq
    have hk2 := kk _ _ _ h2 H1 locs1 rls _ h3 hS1 hL (show js_RL G (_ :: rest) (.int x :: rrest) from ⟨rfl, hR2⟩) (js_jr_no hnp) hle2
    have ec : h2.2.2.1 - c0 = h.2.2.1 - c0 + (h2.2.2.1 - h.2.2.1) := by have a2 := hle2.2.1; dsimp only at a2; omega
    have es : h2.2.2.2 - s0 = h.2.2.2 - s0 + (h2.2.2.2 - h.2.2.2) := by have a2 := hle2.2.2; dsimp only at a2; omega
    rw [ec, es] at hk2
    exact hk2
  · cases hw
theorem og_sLP {m pc mj n idx : Nat} (hcw : js_codeW mj = js_code mj) (hnp : (js_hp m).contains (pc + 3) = false) (hlk9 : js_lkB m mj n) (hk : js_kB mj = true) (hw1 : Jvm.Cond.methodLink (js_y m).cls idx (js_y mj) ∈ js_ws) (hw2 : Jvm.Cond.static (js_y mj) ∈ js_ws)
    (hd : decode (js_b m) pc = .ok (.invokestatic idx, 3)) : js_OkG m pc (o_cL mj n 0 (pc + 3)) := by
  intro p l e R s mth args below meth c Q G H locs ls st h rls rst C K r c0 s0 w hmn hC htab hnc hS hL hR hj hc hs hRc hRs hRf hRl hw hK hCm hCA hCB hr kk kend
  obtain ⟨hx, hb, hml, hown, hts, hlk, hE, hB⟩ := id hC
  unfold o_cL at hr
  obtain ⟨us, rest, rfl, hn9, hk9, hr⟩ := jx_tk_i hr
  obtain ⟨hr, -, -⟩ := jx_rc_i hr
  rw [List.append_nil] at hr
  rcases jx_cL_i hr with ⟨x, h2, e1, h3⟩ | ⟨e9, h2, e1, rfl⟩
  · have hle2 := hCm _ _ _ _ e1
    have hle3 := hK _ _ _ _ h3
    have hM := hCB _ _ _ _ _ hk e1 rfl
    obtain ⟨rus, rrest, rfl, hR1, hR2⟩ := js_RL_app hR
    have hrr := js_RL_rev hR1
    have hcat := js_cat_sum hR2
    have hlen : rus.length = n := by rw [← js_RL_len hR1, hn9]
    have hrm : (js_rm mj (h2.2.2.1 - h.2.2.1) (h2.2.2.2 - h.2.2.2)).frames + 1 ≤ R.frames ∧ 8 + (jx_M mj + 11) + (js_rm mj (h2.2.2.1 - h.2.2.1) (h2.2.2.2 - h.2.2.2)).locals ≤ R.locals := by
      obtain ⟨-, -, -, g1, g2⟩ := hlk9
      show 6 + js_d mj + 1 ≤ R.frames ∧ 8 + (jx_M mj + 11) + (100 + 40 * js_d mj) ≤ R.locals
      omega
    have hrun := va_runS (As := rus.reverse) (rest := rrest) (H := H) (locs := locs) (cells := h.2.2.1 - c0) (slots := h.2.2.2 - s0) (below := below) (e := e) (meth := meth) (g := F0 mth pc rls (rus ++ rrest)) ⟨hx, hb, hml, hown, hts⟩ hM ⟨callB_of (bytes := js_b mj) (maxL := jx_M mj) (ret := js_t mj) n hts (by rw [hcw]; exact js_gi (hcw ▸ hlk9.1)) (by rw [hcw]; rfl) rfl rfl (hts _ hlk9.2.1) (hts _ hw1) hlk9.2.2.1 hrm, hts _ hw2⟩ ⟨js_blindB, fun U hU hW => ⟨js_pre (rs := rus.reverse) hE hS hrr hU hW, js_NcW hnc hW⟩⟩ rfl (by rw [List.length_reverse]; exact hlen) (by show rls.size = _; exact hL.1) (by show rus ++ rrest = _; rw [List.reverse_reverse]) (by show 2 * 0 + _ ≤ 8; omega) hd (by constructor <;> first | (have a2 := hle2.2.1; have a3 := hle3.2.1; dsimp only at a2 a3 ⊢; omega) | (have a2 := hle2.2.2; have a3 := hle3.2.2; dsimp only at a2 a3 ⊢; omega))
    refine js_afterB hrun hS (fun rv hrv H1 locs1 hS1 => ?_)
    obtain ⟨q, hrv, hq⟩ := hrv
    subst hrv
    have hq : q = .long x := hq
    subst hq
    have hk2 := kk _ _ _ h2 H1 locs1 rls _ h3 hS1 hL (show js_RL G (_ :: rest) (.long x :: rrest) from ⟨rfl, hR2⟩) (js_jr_no hnp) hle2
    have ec : h2.2.2.1 - c0 = h.2.2.1 - c0 + (h2.2.2.1 - h.2.2.1) := by have a2 := hle2.2.1; dsimp only at a2; omega
    have es : h2.2.2.2 - s0 = h.2.2.2 - s0 + (h2.2.2.2 - h.2.2.2) := by have a2 := hle2.2.2; dsimp only at a2; omega
    rw [ec, es] at hk2
    exact hk2
  · cases hw
theorem og_sNP {m pc mj n idx : Nat} (hcw : js_codeW mj = js_code mj) (hnp : (js_hp m).contains (pc + 3) = false) (hlk9 : js_lkB m mj n) (hk : js_kB mj = true) (hw1 : Jvm.Cond.methodLink (js_y m).cls idx (js_y mj) ∈ js_ws) (hw2 : Jvm.Cond.static (js_y mj) ∈ js_ws)
    (hd : decode (js_b m) pc = .ok (.invokestatic idx, 3)) : js_OkG m pc (o_cN mj n 0 (pc + 3)) := by
  intro p l e R s mth args below meth c Q G H locs ls st h rls rst C K r c0 s0 w hmn hC htab hnc hS hL hR hj hc hs hRc hRs hRf hRl hw hK hCm hCA hCB hr kk kend
  obtain ⟨hx, hb, hml, hown, hts, hlk, hE, hB⟩ := id hC
  unfold o_cN at hr
  obtain ⟨us, rest, rfl, hn9, hk9, hr⟩ := jx_tk_i hr
  obtain ⟨hr, -, -⟩ := jx_rc_i hr
  rw [List.append_nil] at hr
  rcases jx_cN_i hr with ⟨x, h2, e1, h3⟩ | ⟨h2, e1, h3⟩ | ⟨e9, h2, e1, rfl⟩
  · have hle2 := hCm _ _ _ _ e1
    have hle3 := hK _ _ _ _ h3
    have hM := hCB _ _ _ _ _ hk e1 rfl
    obtain ⟨rus, rrest, rfl, hR1, hR2⟩ := js_RL_app hR
    have hrr := js_RL_rev hR1
    have hcat := js_cat_sum hR2
    have hlen : rus.length = n := by rw [← js_RL_len hR1, hn9]
    have hrm : (js_rm mj (h2.2.2.1 - h.2.2.1) (h2.2.2.2 - h.2.2.2)).frames + 1 ≤ R.frames ∧ 8 + (jx_M mj + 11) + (js_rm mj (h2.2.2.1 - h.2.2.1) (h2.2.2.2 - h.2.2.2)).locals ≤ R.locals := by
      obtain ⟨-, -, -, g1, g2⟩ := hlk9
      show 6 + js_d mj + 1 ≤ R.frames ∧ 8 + (jx_M mj + 11) + (100 + 40 * js_d mj) ≤ R.locals
      omega
    have hrun := va_runS (As := rus.reverse) (rest := rrest) (H := H) (locs := locs) (cells := h.2.2.1 - c0) (slots := h.2.2.2 - s0) (below := below) (e := e) (meth := meth) (g := F0 mth pc rls (rus ++ rrest)) ⟨hx, hb, hml, hown, hts⟩ hM ⟨callB_of (bytes := js_b mj) (maxL := jx_M mj) (ret := js_t mj) n hts (by rw [hcw]; exact js_gi (hcw ▸ hlk9.1)) (by rw [hcw]; rfl) rfl rfl (hts _ hlk9.2.1) (hts _ hw1) hlk9.2.2.1 hrm, hts _ hw2⟩ ⟨js_blindB, fun U hU hW => ⟨js_pre (rs := rus.reverse) hE hS hrr hU hW, js_NcW hnc hW⟩⟩ rfl (by rw [List.length_reverse]; exact hlen) (by show rls.size = _; exact hL.1) (by show rus ++ rrest = _; rw [List.reverse_reverse]) (by show 2 * 0 + _ ≤ 8; omega) hd (by constructor <;> first | (have a2 := hle2.2.1; have a3 := hle3.2.1; dsimp only at a2 a3 ⊢; omega) | (have a2 := hle2.2.2; have a3 := hle3.2.2; dsimp only at a2 a3 ⊢; omega))
    refine js_afterB hrun hS (fun rv hrv H1 locs1 hS1 => ?_)
    obtain ⟨q, hrv, hq⟩ := hrv
    subst hrv
    have hq : q = .ref (js_ad G x) := hq
    subst hq
    have hk2 := kk _ _ _ h2 H1 locs1 rls _ h3 hS1 hL (show js_RL G (_ :: rest) (.ref (js_ad G x) :: rrest) from ⟨rfl, hR2⟩) (js_jr_no hnp) hle2
    have ec : h2.2.2.1 - c0 = h.2.2.1 - c0 + (h2.2.2.1 - h.2.2.1) := by have a2 := hle2.2.1; dsimp only at a2; omega
    have es : h2.2.2.2 - s0 = h.2.2.2 - s0 + (h2.2.2.2 - h.2.2.2) := by have a2 := hle2.2.2; dsimp only at a2; omega
    rw [ec, es] at hk2
    exact hk2
  · have hle2 := hCm _ _ _ _ e1
    have hle3 := hK _ _ _ _ h3
    have hM := hCB _ _ _ _ _ hk e1 rfl
    obtain ⟨rus, rrest, rfl, hR1, hR2⟩ := js_RL_app hR
    have hrr := js_RL_rev hR1
    have hcat := js_cat_sum hR2
    have hlen : rus.length = n := by rw [← js_RL_len hR1, hn9]
    have hrm : (js_rm mj (h2.2.2.1 - h.2.2.1) (h2.2.2.2 - h.2.2.2)).frames + 1 ≤ R.frames ∧ 8 + (jx_M mj + 11) + (js_rm mj (h2.2.2.1 - h.2.2.1) (h2.2.2.2 - h.2.2.2)).locals ≤ R.locals := by
      obtain ⟨-, -, -, g1, g2⟩ := hlk9
      show 6 + js_d mj + 1 ≤ R.frames ∧ 8 + (jx_M mj + 11) + (100 + 40 * js_d mj) ≤ R.locals
      omega
    have hrun := va_runS (As := rus.reverse) (rest := rrest) (H := H) (locs := locs) (cells := h.2.2.1 - c0) (slots := h.2.2.2 - s0) (below := below) (e := e) (meth := meth) (g := F0 mth pc rls (rus ++ rrest)) ⟨hx, hb, hml, hown, hts⟩ hM ⟨callB_of (bytes := js_b mj) (maxL := jx_M mj) (ret := js_t mj) n hts (by rw [hcw]; exact js_gi (hcw ▸ hlk9.1)) (by rw [hcw]; rfl) rfl rfl (hts _ hlk9.2.1) (hts _ hw1) hlk9.2.2.1 hrm, hts _ hw2⟩ ⟨js_blindB, fun U hU hW => ⟨js_pre (rs := rus.reverse) hE hS hrr hU hW, js_NcW hnc hW⟩⟩ rfl (by rw [List.length_reverse]; exact hlen) (by show rls.size = _; exact hL.1) (by show rus ++ rrest = _; rw [List.reverse_reverse]) (by show 2 * 0 + _ ≤ 8; omega) hd (by constructor <;> first | (have a2 := hle2.2.1; have a3 := hle3.2.1; dsimp only at a2 a3 ⊢; omega) | (have a2 := hle2.2.2; have a3 := hle3.2.2; dsimp only at a2 a3 ⊢; omega))
    refine js_afterB hrun hS (fun rv hrv H1 locs1 hS1 => ?_)
    obtain ⟨q, hrv, hq⟩ := hrv
    subst hrv
    have hq : q = .null := hq
    subst hq
    have hk2 := kk _ _ _ h2 H1 locs1 rls _ h3 hS1 hL (show js_RL G (_ :: rest) (.null :: rrest) from ⟨rfl, hR2⟩) (js_jr_no hnp) hle2
    have ec : h2.2.2.1 - c0 = h.2.2.1 - c0 + (h2.2.2.1 - h.2.2.1) := by have a2 := hle2.2.1; dsimp only at a2; omega
    have es : h2.2.2.2 - s0 = h.2.2.2 - s0 + (h2.2.2.2 - h.2.2.2) := by have a2 := hle2.2.2; dsimp only at a2; omega
    rw [ec, es] at hk2
    exact hk2
  · cases hw
/-- what is known of a method under the general rule -/
def js_mokG (m : Nat) : Prop := ∀ pc, js_OkG m pc (jx_lk (jx_P m) pc)
theorem js_runG {l : Launch} {G : js_G} {m N0 : Nat} (hmk : js_mokG m) (hst : l.stackTraces = false) (hok : ∀ m', js_kA m' = true → js_mok m') (hkB : ∀ n m' as h r' v, n < N0 → js_kB m' = true → jx_xn n m' 0 (jx_en (jx_M m') as) [] h = some r' → (jx_sp as).length ≤ jx_M m' → r'.1 = .inl (some v) → js_ConB l G m' as h r') {p : Program} {e : Env} {R : Room} {s : State} {mth : MethodId} {args : Array Value} {below : List Frame} {meth : Method} {c : Code} {Q : State → Prop} {r : jx_O} {c0 s0 : Nat} {w : Value}
    (hmn : meth.name = (js_y m).name) (hC : js_Cx G m p l s mth args meth c) (htab : c.exceptionTable.toList = tableOf (js_hh m)) (hnc : js_Nc s) (hRc : r.2.2.2.1 - c0 ≤ R.cells) (hRs : r.2.2.2.2 - s0 ≤ R.slots) (hRf : 6 + js_d m ≤ R.frames) (hRl : 100 + 40 * js_d m ≤ R.locals) (hw : r.1 = .inl (some w))
    (kend : ∀ (pc' : Nat) (v rv : Value) (H' : Heap) (locs' : List Loc) (h' : jx_H) (rls' : Array Slot), js_end m pc' v → rv = js_v G v → r = (.inl (some v), h') → js_S G s H' locs' h' → W p l e R s mth args below meth c H' locs' (h'.2.2.1 - c0) (h'.2.2.2 - s0) Q (F0 mth pc' rls' [rv])) :
    ∀ (n pc : Nat) (ls st : List Value) (h : jx_H) (H : Heap) (locs : List Loc) (rls : Array Slot) (rst : List Value), n ≤ N0 → jx_xn n m pc ls st h = some r → js_S G s H locs h → js_L G (jx_M m) ls rls → js_RL G st rst → js_jr m pc rst → c0 ≤ h.2.2.1 → s0 ≤ h.2.2.2 → W p l e R s mth args below meth c H locs (h.2.2.1 - c0) (h.2.2.2 - s0) Q (F0 mth pc rls rst)
  | 0, pc, ls, st, h, H, locs, rls, rst, hn0, hr, hS, hL, hR, hj, hc, hs => by cases hr
  | n + 1, pc, ls, st, h, H, locs, rls, rst, hn0, hr, hS, hL, hR, hj, hc, hs => by
    have ih := js_runG hmk hst hok hkB hmn hC htab hnc hRc hRs hRf hRl hw kend n
    refine hmk pc p l e R s mth args below meth c Q G H locs ls st h rls rst (fun m' as h => bif Nat.ble (jx_sp as).length (jx_M m') then jx_xn n m' 0 (jx_en (jx_M m') as) [] h else none) (fun pc ls st h => jx_xn n m pc ls st h) r c0 s0 w hmn hC htab hnc hS hL hR hj hc hs hRc hRs hRf hRl hw (fun _ _ _ _ q => jx_mn n _ _ _ _ _ _ q) (fun _ _ _ _ q => jx_mn n _ _ _ _ _ _ (jx_bi q).2) (fun m' as h1 r' hk' q => ?_) (fun m' as h1 r' v hk' q hv => ?_) hr (fun pc' ls' st' h' H' locs' rls' rst' hK hS' hL' hR' hj' hle' => ih pc' ls' st' h' H' locs' rls' rst' (Nat.le_of_succ_le hn0) hK hS' hL' hR' hj' (Nat.le_trans hc hle'.2.1) (Nat.le_trans hs hle'.2.2)) kend
    · obtain ⟨q1, q2⟩ := jx_bi q
      exact js_con_of (hok m' hk').1 (js_run hst hok n) hk' (Nat.le_of_ble_eq_true q1) q2
    · obtain ⟨q1, q2⟩ := jx_bi q
      exact hkB n m' as h1 r' v hn0 hk' q2 (Nat.le_of_ble_eq_true q1) hv
/-- what is known of a method that always returns -/
def js_mB (m : Nat) : Prop := plainName (js_y m).cls = true ∧ (js_hp m).contains 0 = false ∧ js_mokG m
/-- the contract of a method that always returns -/
theorem js_conB_of {l : Launch} {G : js_G} {n m : Nat} {as : List Value} {h : jx_H} {r : jx_O} {v : Value} (hm : js_mB m) (hst : l.stackTraces = false) (hok : ∀ m', js_kA m' = true → js_mok m') (hkB : ∀ n' m' as h r' v, n' < n → js_kB m' = true → jx_xn n' m' 0 (jx_en (jx_M m') as) [] h = some r' → (jx_sp as).length ≤ jx_M m' → r'.1 = .inl (some v) → js_ConB l G m' as h r') (hr : jx_xn n m 0 (jx_en (jx_M m) as) [] h = some r) (hlen : (jx_sp as).length ≤ jx_M m) (hv : r.1 = .inl (some v)) : js_ConB l G m as h r := by
  obtain ⟨hP, h0, hmk⟩ := hm
  have key : ∀ (p : Program) (e : Env) (s : State) (mth : MethodId) (args : Array Value) (below : List Frame) (meth : Method) (c : Code) (s₁ : State), BodyLoose p l (js_y m) (headSpec (js_codeW m :: js_ws) (js_rm m (r.2.2.2.1 - h.2.2.1) (r.2.2.2.2 - h.2.2.2))) (js_b m) (jx_M m) (js_t m) e s mth args below meth c s₁ → c.maxLocals = jx_M m → c.exceptionTable.toList = tableOf (js_hh m) → js_PcB G as h args s →
      W p l e (js_rm m (r.2.2.2.1 - h.2.2.1) (r.2.2.2.2 - h.2.2.2)) s mth args below meth c s.heap [] 0 0 (MQ below (js_Q1 G r) args s (r.2.2.2.1 - h.2.2.1) (r.2.2.2.2 - h.2.2.2) (js_A G)) (entryFrame mth args (jx_M m)) := by
    intro p e s mth args below meth c s₁ B hml htab hv9
    obtain ⟨⟨⟨rs, rfl, hrs⟩, hE, hH⟩, hnc⟩ := hv9
    have hts := atoms_spec (ws := js_codeW m :: js_ws) B.pre
    have hown : s.vm.findClass (js_y m).cls = some mth.cls := findClass_of_methodNamed B.named
    have hret := B.returns
    have hlk := B.notSynchronized
    have hx := B.exec
    have hb := B.bytes
    rw [lg_entry_eq]
    have hW := js_runG (N0 := n) (Q := MQ below (js_Q1 G r) rs.toArray s (r.2.2.2.1 - h.2.2.1) (r.2.2.2.2 - h.2.2.2) (js_A G)) (R := js_rm m (r.2.2.2.1 - h.2.2.1) (r.2.2.2.2 - h.2.2.2)) (below := below) (e := e) (c0 := h.2.2.1) (s0 := h.2.2.2) hmk hst hok hkB (name_of_methodNamed B.named B.method).1 (⟨B.exec, B.bytes, hml, hown, fun w hw => hts w (List.mem_cons_of_mem _ hw), B.notSynchronized, hE, hH.2.2.2.2.2⟩ : js_Cx G m p l s mth rs.toArray meth c) htab hnc (Nat.le_refl _) (Nat.le_refl _) (Nat.le_refl _) (Nat.le_refl _) hv
      (fun pc' v' rv H' locs' h' rls' he hrv hr' hS' => by
        subst hrv
        subst hr'
        rcases he with ⟨hd, x, rfl, ht | ⟨ht, hz⟩⟩ | ⟨hd, ht, x, rfl⟩ | ⟨hd, ⟨nm, ht⟩, rfl | ⟨x, rfl⟩⟩
        · exact W.iret hx hb (hret.trans ht) (fun t ht' hW => ⟨⟨_, rfl, _, rfl, rfl⟩, by rw [ht']; exact hS'.1, hS'.2.F ht'⟩) hS'.2.2.2 hd hlk
        · exact W.zret hx hb (hret.trans ht) (by rcases hz with rfl | rfl <;> rfl) (fun t ht' hW => ⟨⟨_, rfl, _, rfl, rfl⟩, by rw [ht']; exact hS'.1, hS'.2.F ht'⟩) hS'.2.2.2 hd hlk
        · exact W.lret hx hb (hret.trans ht) (fun t ht' hW => ⟨⟨_, rfl, _, rfl, rfl⟩, by rw [ht']; exact hS'.1, hS'.2.F ht'⟩) hS'.2.2.2 hd hlk
        · exact W.aret hx hb (hret.trans ht) (Or.inl ⟨_, rfl⟩) (Or.inl rfl) (fun t ht' hW => ⟨⟨_, rfl, _, rfl, rfl⟩, by rw [ht']; exact hS'.1, hS'.2.F ht'⟩) hS'.2.2.2 hd hlk
        · exact W.aret hx hb (hret.trans ht) (Or.inl ⟨_, rfl⟩) (Or.inr ⟨_, rfl⟩) (fun t ht' hW => ⟨⟨_, rfl, _, rfl, rfl⟩, by rw [ht']; exact hS'.1, hS'.2.F ht'⟩) hS'.2.2.2 hd hlk)
      n 0 (jx_en (jx_M m) as) [] h s.heap [] _ [] (Nat.le_refl _) hr ⟨hH, va_S.rf⟩ (js_entry hrs hlen) trivial (js_jr_no h0) (Nat.le_refl _) (Nat.le_refl _)
    rw [Nat.sub_self, Nat.sub_self] at hW
    exact hW
  unfold js_ConB
  cases ehh : js_hh m with
  | nil =>
    have ec : js_codeW m = js_code m := by unfold js_codeW; rw [ehh]
    refine Met.ofW (cc := js_b m) (maxL := jx_M m) (ret := js_t m) (ws' := js_ws) hP (by rw [ec]; rfl) ?_
    intro p e s mth args below meth c s₁ B hml hv9
    have hts := atoms_spec (ws := js_codeW m :: js_ws) B.pre
    have htab : c.exceptionTable.toList = tableOf (js_hh m) := by
      have hcd : (Jvm.Cond.code (js_y m) (js_b m) (jx_M m) (js_t m)).before args s = true := by
        have := hts _ List.mem_cons_self
        rw [ec] at this
        exact this
      obtain ⟨meth9, c9, h1, h2, -, -, -, -, h7, -⟩ := Jvm.Cond.code_spec B.named hcd
      cases Option.some.inj (h1.symm.trans B.method)
      cases Option.some.inj (h2.symm.trans (Stand.of_body B).code)
      rw [Array.isEmpty_iff.mp h7, ehh]
      rfl
    exact key p e s mth args below meth c s₁ B hml htab hv9
  | cons q rr =>
    have ec : js_codeW m = Jvm.Cond.codeWith (js_y m) (js_b m) (jx_M m) (js_t m) (js_hh m) := by unfold js_codeW; rw [ehh]
    refine va_MetW (cc := js_b m) (maxL := jx_M m) (ret := js_t m) (hh := js_hh m) (ws' := js_ws) hP (by rw [ec]) ?_
    intro p e s mth args below meth c s₁ B hml hv9
    have hts := atoms_spec (ws := js_codeW m :: js_ws) B.pre
    have hcd := hts _ List.mem_cons_self
    rw [ec] at hcd
    exact key p e s mth args below meth c s₁ B hml (vx_table (x := js_y m) B hcd) hv9
/-- all of them -/
theorem js_conB_all {l : Launch} {G : js_G} (hst : l.stackTraces = false) (hok : ∀ m', js_kA m' = true → js_mok m') (hmB : ∀ m', js_kB m' = true → js_mB m') : ∀ n n' m as h r v, n' < n → js_kB m = true → jx_xn n' m 0 (jx_en (jx_M m) as) [] h = some r → (jx_sp as).length ≤ jx_M m → r.1 = .inl (some v) → js_ConB l G m as h r
  | 0, n', m, as, h, r, v, hn, hk, hr, hlen, hv => absurd hn (Nat.not_lt_zero _)
  | n + 1, n', m, as, h, r, v, hn, hk, hr, hlen, hv =>
    js_conB_of (hmB m hk) hst hok (fun n2 m' as h r' v h2 => js_conB_all hst hok hmB n n2 m' as h r' v (by omega)) hr hlen hv
end JS
