/-! The law's changes: numbers of the script, wrappers of changes. -/
section JX
theorem ir_u {c : Nat} (h : c < 2 ^ 31) : (nI c).toUInt32.toNat = c := by
  show (BitVec.ofNat 32 c).toNat = c
  rw [BitVec.toNat_ofNat, Nat.mod_eq_of_lt (by omega)]
theorem ir_of (v : UInt32) : v.toInt32 = nI v.toNat := by
  show (⟨v⟩ : Int32) = ⟨⟨BitVec.ofNat 32 v.toBitVec.toNat⟩⟩
  rw [BitVec.ofNat_toNat, BitVec.setWidth_eq]
theorem ir_y (y : Int32) : ∃ c, c < 2 ^ 31 ∧ (y.toUInt32 >>> ((1 : Int32).toUInt32 &&& Int32.toUInt32 31)).toInt32 = nI c := by
  refine ⟨_, ?_, ir_of _⟩
  rw [UInt32.toNat_shiftRight, show (((1 : Int32).toUInt32 &&& Int32.toUInt32 31).toNat % 32) = 1 from rfl, Nat.shiftRight_eq_div_pow]
  have := y.toUInt32.toNat_lt
  omega
theorem ir_s {c : Nat} (hc : c < 2 ^ 31) (k : UInt32) : ∃ d, d < 2 ^ 31 ∧ ((nI c).toUInt32 >>> k).toInt32 = nI d := by
  refine ⟨_, ?_, ir_of _⟩
  rw [UInt32.toNat_shiftRight, ir_u hc, Nat.shiftRight_eq_div_pow]
  exact Nat.lt_of_le_of_lt (Nat.div_le_self _ _) hc
theorem ir_b {n : Nat} (h : n < 2 ^ 31) : Int.bmod (n : Int) (2 ^ 32) = (n : Int) := Int.bmod_eq_of_le (by omega) (by omega)
theorem ir_d {c m : Nat} (hc : c < 2 ^ 31) (hm : m < 2 ^ 31) : nI c / nI m = nI (c / m) := by
  have hd : c / m < 2 ^ 31 := Nat.lt_of_le_of_lt (Nat.div_le_self _ _) hc
  rw [← Int32.toInt_inj, Int32.toInt_div, nI_toInt hc, nI_toInt hm, nI_toInt hd, ← Int.ofNat_tdiv]
  exact ir_b hd
theorem ir_x (a b : Nat) : nI a * nI b = nI (a * b) := (Int32.ofNat_mul a b).symm
theorem ir_m {c m : Nat} {w : Int32} (hc : c < 2 ^ 31) (hm : m < 2 ^ 31) (hw : w = nI m) : nI c - nI c / w * w = nI (c % m) := by
  subst hw
  rw [ir_d hc hm, ir_x]
  have e : c = c / m * m + c % m := by rw [Nat.mul_comm]; exact (Nat.div_add_mod c m).symm
  have := nI_sub (a := c / m * m) (b := c % m)
  rw [← e] at this
  exact this
theorem pz_A_len (c : Nat → Nat) (L : Nat) : ∀ (n po : Nat) (l), pz_A c L n po = .inr l → l.length ≤ n
  | 0, po, l, h => by cases h
  | n + 1, po, l, h => by
    unfold pz_A at h
    split at h
    · cases h
    · rename_i q _
      split at h
      · cases h; exact Nat.le_add_left 1 n
      · split at h
        · split at h
          · cases h
          · rename_i l' e
            cases h
            exact Nat.succ_le_succ (pz_A_len c L n _ _ e)
        · cases h
theorem ex_l_nx : ∀ (l : List (Nat × List Nat)) {M M1 : mm_T}, ex_l M l M1 → M1.2.1 ≤ M.2.1 + l.length
  | [], M, M1, a => by rw [show M1 = M from a]; exact Nat.le_refl _
  | q :: l, M, M1, ⟨A, a1, a2⟩ => by
    have := ex_l_nx l a2
    have := ex_nx a1
    show M1.2.1 ≤ M.2.1 + (l.length + 1)
    omega
theorem cl_I_ok {h : jx_H} {C : cl_T} (I : cl_I h C) : C.1.1 ≤ 20 ∧ C.1.2.1 < 2 ^ 30 ∧ (∀ k, k < C.1.1 → fg_ok (C.1.2.2.1 k)) ∧ mm_C C.1 ∧ C.2.2.1 ≤ 8 := by
  obtain ⟨nx, J⟩ := I
  exact ⟨(bd_R_ok J.2.1).1, (bd_R_ok J.2.1).2.1, (bd_R_ok J.2.1).2.2, bd_R_C J.2.1, J.2.2.2.1.2.2.2.1⟩
/-- a change that the law asks for: kept with an answer from 0 on, or refused with a number below -/
def lc_I (xs : List Int32) (C : cl_T) (h : jx_H) (X : jx_R) (ok : mm_T → Prop) (N : Prop) : Prop :=
  (∃ (n : Nat) (M' : mm_T) (h' : jx_H), n < 2 ^ 30 ∧ ok M' ∧ X = some (.inl (some (.int (nI n))), h') ∧ lo_I xs (cl_push (cl_M C M') C.1) h' ∧ zz 0 h h') ∨
  (∃ (r : Int32) (h' : jx_H), (r = -1 → N) ∧ (r = -1 ∨ r = -2 ∨ r = -3) ∧ X = some (.inl (some (.int r)), h') ∧ lo_I xs C h' ∧ zz 1 h h')
section LC
variable {xs : List Int32} {C : cl_T} {h : jx_H}
theorem lc_of {X Y : jx_R} {ok : Int32 → mm_T → Prop} {ok' : mm_T → Prop} {no : Int32 → Prop} {N : Prop} (L : lo_I xs C h) (c : cl_C h C X ok no)
    (hn : ∀ r M', ok r M' → ok' M' ∧ ∃ n : Nat, r = nI n ∧ n < 2 ^ 30)
    (w1 : ∀ (y : Int32) (h1 : jx_H), X = some (.inl (some (.int y)), h1) → Y = some (.inl (some (.int y)), h1))
    (w2 : ∀ (r : Int32) (s : String) (h1 : jx_H), no r → cl_ex r s → X = some (.inr s, h1) → ∃ q : Int32, (q = -1 → N) ∧ (q = -1 ∨ q = -2 ∨ q = -3) ∧ Y = some (.inl (some (.int q)), h1)) : lc_I xs C h Y ok' N := by
  rcases c with ⟨r, M', h', q1, e, I, t⟩ | ⟨r, s, h', q1, q2, e, I, t⟩
  · obtain ⟨o, n, rfl, n30⟩ := hn r M' q1
    exact Or.inl ⟨n, M', h', n30, o, w1 _ _ e, lo_eq L t I, zz_eq t⟩
  · obtain ⟨q, a, b, c⟩ := w2 r s _ q1 q2 e
    exact Or.inr ⟨q, _, a, b, c, lo_x (lo_eq L t I), (Nat.zero_add 1) ▸ zz_tr (zz_eq t) zz_x⟩
theorem cl_ex1 {s : String} (q : cl_ex (-1) s) : s = eNS := by
  rcases q with ⟨a, -⟩ | ⟨a, -⟩ | ⟨a, -⟩ | ⟨-, b⟩
  · exact absurd a (by decide)
  · exact absurd a (by decide)
  · exact absurd a (by decide)
  · exact b
theorem cl_ex2 {s : String} (q : cl_ex (-2) s) : s = eIO := by
  rcases q with ⟨a, -⟩ | ⟨a, -⟩ | ⟨-, b⟩ | ⟨a, -⟩
  · exact absurd a (by decide)
  · exact absurd a (by decide)
  · exact b
  · exact absurd a (by decide)
theorem cl_ex3 {s : String} (q : cl_ex (-3) s) : s = eIA := by
  rcases q with ⟨a, -⟩ | ⟨-, b⟩ | ⟨a, -⟩ | ⟨a, -⟩
  · exact absurd a (by decide)
  · exact b
  · exact absurd a (by decide)
  · exact absurd a (by decide)
theorem cl_ex4 {s : String} (q : cl_ex (-4) s) : s = eIS := by
  rcases q with ⟨-, b⟩ | ⟨a, -⟩ | ⟨a, -⟩ | ⟨a, -⟩
  · exact b
  · exact absurd a (by decide)
  · exact absurd a (by decide)
  · exact absurd a (by decide)
theorem l_133 (L : lo_I xs C h) (hx : C.1.2.1 + 1 < 2 ^ 30) (c n e s w : Int32) : lc_I xs C h (jx_A 133 [.ref 200, .int c, .int n, .int e, .int s, .int w] h) (fun M' => ok_add C.1 c n e s w (nI C.1.2.1) M') (no_add C.1 c n e s w (-3)) := by
  refine lc_of L (c_60 L.1 L.2.1 hx c n e s w) ?_ (fun y h1 q => w_133_ok L.2.1 q) ?_
  · rintro r M' ⟨c', n', e', s', w', a1, a2, a3, a4, a5, a6, rfl, a8⟩
    exact ⟨⟨c', n', e', s', w', a1, a2, a3, a4, a5, a6, rfl, a8⟩, _, rfl, by omega⟩
  · rintro r s' h1 q c q2
    rcases q with ⟨q, rfl⟩ | ⟨-, -, -, -, -, -, rfl⟩
    · have := cl_ex3 c; subst this
      exact ⟨-1, fun _ => Or.inl ⟨q, rfl⟩, Or.inl rfl, w_133_eIA L.2.1 q2⟩
    · have := cl_ex4 c; subst this
      exact ⟨-2, fun q => absurd q (by decide), Or.inr (Or.inl rfl), w_133_eIS L.2.1 q2⟩
theorem l_134 (L : lo_I xs C h) (v : Int32) : lc_I xs C h (jx_A 134 [.ref 200, .int v] h) (fun M' => ∃ r, ok_drop C.1 v r M') True := by
  have O := cl_I_ok L.2.1
  refine lc_of L (c_61 L.1 L.2.1 v) ?_ (fun y h1 q => w_134_ok L.2.1 q) ?_
  · rintro r M' ⟨k, a, b, rfl, c⟩
    exact ⟨⟨_, k, a, b, rfl, c⟩, _, rfl, by omega⟩
  · rintro r s' h1 q c q2
    rcases q with ⟨-, rfl⟩ | ⟨k, -, -, rfl⟩
    · have := cl_ex1 c; subst this
      exact ⟨-1, fun _ => trivial, Or.inl rfl, w_134_eNS L.2.1 q2⟩
    · have := cl_ex4 c; subst this
      exact ⟨-2, fun _ => trivial, Or.inr (Or.inl rfl), w_134_eIS L.2.1 q2⟩
theorem l_141 (L : lo_I xs C h) (v y x : Int32) : lc_I xs C h (jx_A 141 [.ref 200, .int v, .int y, .int x] h) (fun M' => ∃ r, ok_put C.1 v y x r M') (mm_fd C.1 v none) := by
  refine lc_of L (c_72 L.1 L.2.1 v y x) ?_ (fun y h1 q => w_141_ok L.2.1 q) ?_
  · rintro r M' ⟨k, i, j, a1, a2, a3, a4, a5, a6, a7, rfl, a9⟩
    exact ⟨⟨_, k, i, j, a1, a2, a3, a4, a5, a6, a7, rfl, a9⟩, _, rfl, by have := mm_ms_le M'.2.2.2 1 (8 * i + j); omega⟩
  · rintro r s' h1 q c q2
    rcases q with ⟨q, rfl⟩ | ⟨k, -, ⟨-, rfl⟩ | ⟨i, j, -, -, -, -, -, rfl⟩⟩
    · have := cl_ex1 c; subst this
      exact ⟨-1, fun _ => q, Or.inl rfl, w_141_eNS L.2.1 q2⟩
    · have := cl_ex2 c; subst this
      exact ⟨-2, fun q => absurd q (by decide), Or.inr (Or.inl rfl), w_141_eIO L.2.1 q2⟩
    · have := cl_ex4 c; subst this
      exact ⟨-3, fun q => absurd q (by decide), Or.inr (Or.inr rfl), w_141_eIS L.2.1 q2⟩
theorem l_142 (L : lo_I xs C h) (v : Int32) : lc_I xs C h (jx_A 142 [.ref 200, .int v] h) (fun M' => ∃ r, ok_take C.1 v r M') (mm_fd C.1 v none) := by
  refine lc_of L (c_73 L.1 L.2.1 v) ?_ (fun y h1 q => w_142_ok L.2.1 q) ?_
  · rintro r M' ⟨k, c, a1, a2, a3, rfl, a5⟩
    exact ⟨⟨_, k, c, a1, a2, a3, rfl, a5⟩, _, rfl, by have := mm_ms_le C.1.2.2.2 1 c; omega⟩
  · rintro r s' h1 q c q2
    rcases q with ⟨q, rfl⟩ | ⟨k, -, -, rfl⟩
    · have := cl_ex1 c; subst this
      exact ⟨-1, fun _ => q, Or.inl rfl, w_142_eNS L.2.1 q2⟩
    · have := cl_ex4 c; subst this
      exact ⟨-2, fun q => absurd q (by decide), Or.inr (Or.inl rfl), w_142_eIS L.2.1 q2⟩
theorem l_143 (L : lo_I xs C h) (v t : Int32) : lc_I xs C h (jx_A 143 [.ref 200, .int v, .int t] h) (fun M' => ∃ r, ok_turn C.1 v t r M') (mm_fd C.1 v none) := by
  have O := cl_I_ok L.2.1
  refine lc_of L (c_74 L.1 L.2.1 v t) ?_ (fun y h1 q => w_143_ok L.2.1 q) ?_
  · rintro r M' ⟨k, t', a1, a2, a3, rfl, a5⟩
    exact ⟨⟨_, k, t', a1, a2, a3, rfl, a5⟩, _, rfl, by have := (O.2.2.1 k a1.1).2.2.2.1; omega⟩
  · rintro r s' h1 q c q2
    rcases q with ⟨q, rfl⟩ | ⟨k, -, -, rfl⟩
    · have := cl_ex1 c; subst this
      exact ⟨-1, fun _ => q, Or.inl rfl, w_143_eNS L.2.1 q2⟩
    · have := cl_ex3 c; subst this
      exact ⟨-2, fun q => absurd q (by decide), Or.inr (Or.inl rfl), w_143_eIA L.2.1 q2⟩
theorem l_144 (L : lo_I xs C h) (v w : Int32) : lc_I xs C h (jx_A 144 [.ref 200, .int v, .int w] h) (fun M' => ∃ r, ok_swap C.1 v w r M') True := by
  have O := cl_I_ok L.2.1
  refine lc_of L (c_75 L.1 L.2.1 v w) ?_ (fun y h1 q => w_144_ok L.2.1 q) ?_
  · rintro r M' ⟨k, l, c, d, a1, a2, a3, a4, a5, a6, a7, rfl, rfl⟩
    exact ⟨⟨_, k, l, c, d, a1, a2, a3, a4, a5, a6, a7, rfl, rfl⟩, _, rfl, by have := mm_pr_le (mm_sw C.1 k l c d) 1; have e : (mm_sw C.1 k l c d).1 = C.1.1 := rfl; omega⟩
  · rintro r s' h1 q c q2
    rcases q with ⟨-, rfl⟩ | ⟨k, -, -, rfl⟩ | ⟨k, l, -, -, -, -, rfl⟩
    · have := cl_ex1 c; subst this
      exact ⟨-1, fun _ => trivial, Or.inl rfl, w_144_eNS L.2.1 q2⟩
    · have := cl_ex3 c; subst this
      exact ⟨-2, fun _ => trivial, Or.inr (Or.inl rfl), w_144_eIA L.2.1 q2⟩
    · have := cl_ex4 c; subst this
      exact ⟨-3, fun _ => trivial, Or.inr (Or.inr rfl), w_144_eIS L.2.1 q2⟩
theorem l_145 (L : lo_I xs C h) (y x : Int32) : lc_I xs C h (jx_A 145 [.ref 200, .int y, .int x] h) (fun M' => ∃ r, ok_pg C.1 y x r M') (q_cell y x none) := by
  have O := cl_I_ok L.2.1
  rcases c_76 L.1 L.2.1 y x with ⟨r, M', h', q1, e, I, t⟩ | ⟨s, h', q1, e, I, t⟩
  · obtain ⟨c, k, a1, a2, a3, rfl, a5⟩ := id q1
    have hk : k < C.1.1 := a3.1
    exact Or.inl ⟨_, M', h', (O.2.2.1 k hk).1, ⟨_, q1⟩, w_145_ok L.2.1 e, lo_eq L t I, zz_eq t⟩
  · have Z := lo_x (lo_eq L t I)
    have z := (Nat.zero_add 1) ▸ zz_tr (zz_eq t) (zz_x (h := h'))
    rcases q1 with ⟨q, rfl⟩ | ⟨c, -, ⟨-, rfl⟩ | ⟨-, -, rfl⟩⟩
    · exact Or.inr ⟨-1, _, fun _ => q, Or.inl rfl, w_145_eIO L.2.1 e, Z, z⟩
    · exact Or.inr ⟨-2, _, fun q => absurd q (by decide), Or.inr (Or.inl rfl), w_145_eUO L.2.1 e, Z, z⟩
    · exact Or.inr ⟨-3, _, fun q => absurd q (by decide), Or.inr (Or.inr rfl), w_145_eNS L.2.1 e, Z, z⟩
theorem l_77 (L : lo_I xs C h) : lc_I xs C h (jx_A 77 [.ref 200] h) (fun M' => ∃ r, mm_fl 20 C.1 r M') True := by
  obtain ⟨r, M', h', a, b, e, I, t⟩ := c_77 L.1 L.2.1
  exact Or.inl ⟨r, M', h', by omega, ⟨r, a⟩, e, lo_eq L t I, zz_eq t⟩
end LC
end JX
