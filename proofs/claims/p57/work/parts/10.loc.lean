section JS
theorem js_RL_c {G : js_G} {v : Value} {a rst : List Value} (h : js_RL G (v :: a) rst) : ∃ (r : Value) (b : List Value), rst = r :: b ∧ js_R G v r ∧ js_RL G a b := by
  cases rst with
  | nil => exact h.elim
  | cons r b => exact ⟨r, b, rfl, h.1, h.2⟩
theorem js_RL_n {G : js_G} {rst : List Value} (h : js_RL G [] rst) : rst = [] := by
  cases rst with
  | nil => rfl
  | cons r b => exact h.elim
theorem js_RL_len {G : js_G} : ∀ {a b : List Value} (_ : js_RL G a b), a.length = b.length
  | [], [], _ => rfl
  | _ :: _, _ :: _, h => congrArg (· + 1) (js_RL_len h.2)
theorem js_RL_app {G : js_G} : ∀ {a c rst : List Value} (_ : js_RL G (a ++ c) rst), ∃ b d, rst = b ++ d ∧ js_RL G a b ∧ js_RL G c d
  | [], c, rst, h => ⟨[], rst, rfl, trivial, h⟩
  | v :: a, c, r :: rst, h => by
    obtain ⟨b, d, e, h1, h2⟩ := js_RL_app (a := a) (c := c) h.2
    exact ⟨r :: b, d, by rw [e]; rfl, ⟨h.1, h1⟩, h2⟩
theorem js_RL_rev1 {G : js_G} : ∀ {a b x y : List Value} (_ : js_RL G a b) (_ : js_RL G x y), js_RL G (a.reverse ++ x) (b.reverse ++ y)
  | [], [], x, y, _, k => k
  | v :: a, r :: b, x, y, h, k => by
    have := js_RL_rev1 (x := v :: x) (y := r :: y) h.2 ⟨h.1, k⟩
    simpa using this
theorem js_RL_rev {G : js_G} {a b : List Value} (h : js_RL G a b) : js_RL G a.reverse b.reverse := by
  have := js_RL_rev1 (x := []) (y := []) h trivial
  simpa using this
theorem js_v_cat (G : js_G) (v : Value) : (js_v G v).category = v.category := by cases v <;> rfl
theorem js_w_cat (v : Value) : v.category = (bif jx_w v then 2 else 1) := by cases v <;> rfl
theorem js_R_cat {G : js_G} {v r : Value} (h : js_R G v r) : r.category = v.category := by
  cases v with
  | retAddr n => exact h
  | _ => rw [show r = js_v G _ from h]; rfl
theorem js_cat_sum {G : js_G} : ∀ {a b : List Value} (_ : js_RL G a b), (b.map fun v => v.category).sum = jx_cat a
  | [], [], _ => rfl
  | v :: a, r :: b, h => by
    rw [List.map_cons, List.sum_cons, js_cat_sum h.2, js_R_cat h.1, js_w_cat]
    rfl
theorem js_Rn {G : js_G} {v r : Value} (h : js_R G v r) (hn : js_nj v) : r = js_v G v := by
  cases v with
  | retAddr n => exact absurd rfl (hn n)
  | _ => exact h
theorem js_nj_i (x : Int32) : js_nj (.int x) := fun _ h => by cases h
theorem js_nj_l (x : Int64) : js_nj (.long x) := fun _ h => by cases h
theorem js_nj_f (x : UInt32) : js_nj (.float x) := fun _ h => by cases h
theorem js_nj_d (x : UInt64) : js_nj (.double x) := fun _ h => by cases h
theorem js_nj_r (x : Nat) : js_nj (.ref x) := fun _ h => by cases h
theorem js_nj_n : js_nj .null := fun _ h => by cases h
-- locals
def js_kn (G : js_G) (ls : List Value) : List (Nat × Value) := (List.range ls.length).filterMap (fun k => match (ls[k]? : Option Value) with
  | some (Value.retAddr _) => none
  | some v => some (k, js_v G v)
  | none => none)
theorem js_kn_mem {G : js_G} {ls : List Value} {q : Nat × Value} : q ∈ js_kn G ls ↔ ∃ v, ls[q.1]? = some v ∧ js_nj v ∧ q.2 = js_v G v := by
  unfold js_kn
  rw [List.mem_filterMap]
  constructor
  · rintro ⟨k, hk, h⟩
    split at h
    · cases h
    · rename_i v hn e
      cases h
      exact ⟨v, e, fun n hz => hn n hz, rfl⟩
    · cases h
  · rintro ⟨v, h1, h2, h3⟩
    refine ⟨q.1, List.mem_range.mpr (List.getElem?_eq_some_iff.mp h1).1, ?_⟩
    rw [h1]
    obtain ⟨q1, q2⟩ := q
    dsimp only at h3
    subst h3
    cases v with
    | retAddr n => exact absurd rfl (h2 n)
    | _ => rfl
theorem js_L_has {G : js_G} {n : Nat} {ls : List Value} {rls : Array Slot} (h : js_L G n ls rls) : lv_has rls n (js_kn G ls) := by
  refine ⟨h.1, h.2.1, fun q hq => ?_⟩
  obtain ⟨v, h1, h2, h3⟩ := js_kn_mem.mp hq
  rw [h3]
  exact h.2.2 _ _ h1 h2
theorem js_kp_at {ls : List Value} {i k : Nat} {v : Value} (h : (jx_kp ls i)[k]? = some v) (hn : js_nj v) : ls[k]? = some v ∧ ¬ (k + 1 = i ∧ jx_w v = true) := by
  unfold jx_kp at h
  cases i with
  | zero => exact ⟨h, fun z => by omega⟩
  | succ j =>
    dsimp only at h
    cases e : ls[j]? with
    | none =>
      rw [e] at h
      refine ⟨h, fun z => ?_⟩
      obtain ⟨z1, z2⟩ := z
      have : k = j := by omega
      subst this
      rw [h] at e; cases e
    | some u =>
      rw [e] at h
      dsimp only at h
      cases hw : jx_w u with
      | false =>
        rw [hw, cond_false] at h
        refine ⟨h, fun z => ?_⟩
        obtain ⟨z1, z2⟩ := z
        have : k = j := by omega
        subst this
        rw [h] at e
        cases e
        rw [z2] at hw; cases hw
      | true =>
        rw [hw, cond_true] at h
        by_cases hk : k = j
        · subst hk
          rw [List.getElem?_set_self (List.getElem?_eq_some_iff.mp e).1] at h
          cases h
          exact absurd rfl (hn 0)
        · rw [List.getElem?_set_ne (fun z => hk z.symm)] at h
          exact ⟨h, fun z => by omega⟩
theorem js_L_s1 {G : js_G} {n i : Nat} {ls : List Value} {rls' : Array Slot} {v V : Value} (hV : js_nj v → V = js_v G v) {lv : List (Nat × Value)} (hsub : ∀ q ∈ js_kn G ls, q ∈ lv) (h : lv_has rls' n ((i, V) :: lv.filter (fun q => !(q.1 == i) && !(q.1 + 1 == i && q.2.category == 2)))) : js_L G n (jx_s1 ls i v) rls' := by
  refine ⟨h.1, h.2.1, fun k w hw hn => ?_⟩
  unfold jx_s1 at hw
  by_cases hk : k = i
  · subst hk
    have hlt : k < (jx_kp ls k).length := by
      have := (List.getElem?_eq_some_iff.mp hw).1
      rwa [List.length_set] at this
    rw [List.getElem?_set_self hlt] at hw
    cases hw
    rw [← hV hn]
    exact h.2.2 _ List.mem_cons_self
  · rw [List.getElem?_set_ne (fun z => hk z.symm)] at hw
    obtain ⟨h1, h2⟩ := js_kp_at hw hn
    refine h.2.2 (k, js_v G w) (List.mem_cons_of_mem _ (List.mem_filter.mpr ⟨hsub _ (js_kn_mem.mpr ⟨w, h1, hn, rfl⟩), ?_⟩))
    have e1 : (k == i) = false := by simpa using hk
    rw [e1]
    cases e2 : (k + 1 == i) with
    | false => rfl
    | true =>
      have e3 : jx_w w = false := by
        cases z : jx_w w with
        | false => rfl
        | true => exact absurd ⟨by simpa using e2, z⟩ h2
      show (!false && !(true && ((js_v G w).category == 2))) = true
      rw [js_v_cat, js_w_cat, e3]; rfl
theorem js_L_s2 {G : js_G} {n i : Nat} {ls : List Value} {rls' : Array Slot} {v V : Value} (hV : js_nj v → V = js_v G v) {lv : List (Nat × Value)} (hsub : ∀ q ∈ js_kn G ls, q ∈ lv) (h : lv_has rls' n ((i, V) :: lv.filter (fun q => !(q.1 == i) && (!(q.1 == i + 1) && !(q.1 + 1 == i && q.2.category == 2))))) : js_L G n (jx_s2 ls i v) rls' := by
  refine ⟨h.1, h.2.1, fun k w hw hn => ?_⟩
  unfold jx_s2 at hw
  by_cases hk1 : k = i + 1
  · subst hk1
    rw [List.getElem?_set] at hw
    split at hw
    · split at hw
      · cases hw; exact absurd rfl (hn 0)
      · cases hw
    · rename_i z; exact absurd rfl z
  rw [List.getElem?_set_ne (fun z => hk1 z.symm)] at hw
  by_cases hk : k = i
  · subst hk
    have hlt : k < (jx_kp ls k).length := by
      have := (List.getElem?_eq_some_iff.mp hw).1
      rwa [List.length_set] at this
    rw [List.getElem?_set_self hlt] at hw
    cases hw
    rw [← hV hn]
    exact h.2.2 _ List.mem_cons_self
  · rw [List.getElem?_set_ne (fun z => hk z.symm)] at hw
    obtain ⟨h1, h2⟩ := js_kp_at hw hn
    refine h.2.2 (k, js_v G w) (List.mem_cons_of_mem _ (List.mem_filter.mpr ⟨hsub _ (js_kn_mem.mpr ⟨w, h1, hn, rfl⟩), ?_⟩))
    have e1 : (k == i) = false := by simpa using hk
    have e4 : (k == i + 1) = false := by simpa using hk1
    rw [e1, e4]
    cases e2 : (k + 1 == i) with
    | false => rfl
    | true =>
      have e3 : jx_w w = false := by
        cases z : jx_w w with
        | false => rfl
        | true => exact absurd ⟨by simpa using e2, z⟩ h2
      show (!false && (!false && !(true && ((js_v G w).category == 2)))) = true
      rw [js_v_cat, js_w_cat, e3]; rfl
theorem js_n32 {x : UInt32} (h : isNaN32 x = false) : vf_n32 x := by
  unfold vf_n32
  unfold isNaN32 at h
  have := of_decide_eq_false h
  exact UInt32.not_lt.mp this
theorem js_n64 {x : UInt64} (h : isNaN64 x = false) : vf_n64 x := by
  unfold vf_n64
  unfold isNaN64 at h
  have := of_decide_eq_false h
  exact UInt64.not_lt.mp this
end JS
