/-! Integer.bitCount, different patterns. -/
section JX
def pd_n (x : Int32) : Nat := x.toBitVec.toNat
theorem pd_n_and (x y : Int32) : pd_n (x &&& y) = pd_n x &&& pd_n y := BitVec.toNat_and _ _
theorem pd_n_add {x y : Int32} (h : pd_n x + pd_n y < 2 ^ 32) : pd_n (x + y) = pd_n x + pd_n y := BitVec.toNat_add_of_lt h
theorem pd_n_sub {x y : Int32} (h : pd_n y ≤ pd_n x) : pd_n (x - y) = pd_n x - pd_n y := BitVec.toNat_sub_of_le h
def pd_L1 (x : Int32) : Int32 := x - (((x.toUInt32 >>> ((1 : Int32).toUInt32 &&& Int32.toUInt32 31)).toInt32) &&& 1431655765)
def pd_L2 (x : Int32) : Int32 := (x &&& 858993459) + (((x.toUInt32 >>> ((2 : Int32).toUInt32 &&& Int32.toUInt32 31)).toInt32) &&& 858993459)
def pd_L3 (x : Int32) : Int32 := (x + ((x.toUInt32 >>> ((4 : Int32).toUInt32 &&& Int32.toUInt32 31)).toInt32)) &&& 252645135
def pd_L4 (x : Int32) : Int32 := x + ((x.toUInt32 >>> ((8 : Int32).toUInt32 &&& Int32.toUInt32 31)).toInt32)
def pd_L5 (x : Int32) : Int32 := x + ((x.toUInt32 >>> ((16 : Int32).toUInt32 &&& Int32.toUInt32 31)).toInt32)
theorem pd_sh1 (x : Int32) : pd_n ((x.toUInt32 >>> ((1 : Int32).toUInt32 &&& Int32.toUInt32 31)).toInt32) = pd_n x / 2 := (BitVec.toNat_ushiftRight x.toBitVec 1).trans (Nat.shiftRight_eq_div_pow _ 1)
theorem pd_sh2 (x : Int32) : pd_n ((x.toUInt32 >>> ((2 : Int32).toUInt32 &&& Int32.toUInt32 31)).toInt32) = pd_n x / 4 := (BitVec.toNat_ushiftRight x.toBitVec 2).trans (Nat.shiftRight_eq_div_pow _ 2)
theorem pd_sh4 (x : Int32) : pd_n ((x.toUInt32 >>> ((4 : Int32).toUInt32 &&& Int32.toUInt32 31)).toInt32) = pd_n x / 16 := (BitVec.toNat_ushiftRight x.toBitVec 4).trans (Nat.shiftRight_eq_div_pow _ 4)
theorem pd_sh8 (x : Int32) : pd_n ((x.toUInt32 >>> ((8 : Int32).toUInt32 &&& Int32.toUInt32 31)).toInt32) = pd_n x / 256 := (BitVec.toNat_ushiftRight x.toBitVec 8).trans (Nat.shiftRight_eq_div_pow _ 8)
theorem pd_sh16 (x : Int32) : pd_n ((x.toUInt32 >>> ((16 : Int32).toUInt32 &&& Int32.toUInt32 31)).toInt32) = pd_n x / 65536 := (BitVec.toNat_ushiftRight x.toBitVec 16).trans (Nat.shiftRight_eq_div_pow _ 16)
theorem pd_e1 (x : Int32) : pd_n (pd_L1 x) = pc_1 4 (pd_n x) := by
  unfold pd_L1
  have : pd_n (((x.toUInt32 >>> ((1 : Int32).toUInt32 &&& Int32.toUInt32 31)).toInt32) &&& 1431655765) = (pd_n x / 2) &&& pc_M 85 4 := by rw [pd_n_and, pd_sh1]; rfl
  rw [pd_n_sub (by rw [this]; exact Nat.le_trans Nat.and_le_left (Nat.div_le_self _ _)), this]
  rfl
theorem pd_e2 (x : Int32) : pd_n (pd_L2 x) = pc_2 4 (pd_n x) := by
  unfold pd_L2
  have a : pd_n (x &&& 858993459) = pd_n x &&& pc_M 51 4 := by rw [pd_n_and]; rfl
  have b : pd_n (((x.toUInt32 >>> ((2 : Int32).toUInt32 &&& Int32.toUInt32 31)).toInt32) &&& 858993459) = (pd_n x / 4) &&& pc_M 51 4 := by rw [pd_n_and, pd_sh2]; rfl
  have m : pc_M 51 4 = 858993459 := by decide
  have l1 : pd_n x &&& pc_M 51 4 ≤ pc_M 51 4 := Nat.and_le_right
  have l2 : pd_n x / 4 &&& pc_M 51 4 ≤ pc_M 51 4 := Nat.and_le_right
  rw [pd_n_add (by rw [a, b]; omega), a, b]
  rfl
theorem pd_e3 (x : Int32) (h : pd_n x ≤ 2 * 858993459) : pd_n (pd_L3 x) = pc_3 4 (pd_n x) := by
  unfold pd_L3
  rw [pd_n_and, pd_n_add (by rw [pd_sh4]; omega), pd_sh4]
  rfl
theorem pd_G_sum (x : Nat) : pc_G 4 x = pc_8 (x / 256 ^ 0 % 256) + 256 * pc_8 (x / 256 ^ 1 % 256) + 65536 * pc_8 (x / 256 ^ 2 % 256) + 16777216 * pc_8 (x / 256 ^ 3 % 256) := by
  show pc_8 (x % 256) + 256 * (pc_8 (x / 256 % 256) + 256 * (pc_8 (x / 256 / 256 % 256) + 256 * (pc_8 (x / 256 / 256 / 256 % 256) + 256 * 0))) = _
  rw [Nat.div_div_eq_div_mul, Nat.div_div_eq_div_mul]
  rw [show (256 : Nat) ^ 0 = 1 from rfl, Nat.div_one, show (256 : Nat) ^ 1 = 256 from rfl, show (256 : Nat) ^ 2 = 256 * 256 from rfl, show (256 : Nat) ^ 3 = 256 * 256 * 256 from rfl]
  omega
theorem pd_i32 (x : Int32) : (x &&& 63) = nI (pd_n x % 64) := by
  apply Int32.toBitVec_inj.mp
  apply BitVec.eq_of_toNat_eq
  rw [Int32.toBitVec_and, BitVec.toNat_and]
  show x.toBitVec.toNat &&& (2 ^ 6 - 1) = (BitVec.ofNat 32 (pd_n x % 64)).toNat
  rw [Nat.and_two_pow_sub_one_eq_mod, BitVec.toNat_ofNat]
  unfold pd_n
  omega
def ib (m : Int32) (c : Nat) : Bool := m.toBitVec.getLsbD c
theorem m_244 (x : Int32) (h : jx_H) : jx_A 244 [.int x] h = some (.inl (some (.int (nI (mz_su (fun c => (ib x c).toNat) 32)))), h) := by
  have e : jx_A 244 [.int x] h = some (.inl (some (.int (pd_L5 (pd_L4 (pd_L3 (pd_L2 (pd_L1 x)))) &&& 63))), h) := a_244 x h
  rw [e, pd_i32]
  refine congrArg (fun z => (some (.inl (some (.int (nI z))), h) : jx_R)) ?_
  have hx : pd_n x < 256 ^ 4 := x.toBitVec.isLt
  obtain ⟨g1, -⟩ := pc_all 4 (pd_n x) hx
  have n2 : pd_n (pd_L2 (pd_L1 x)) = pc_2 4 (pc_1 4 (pd_n x)) := by rw [pd_e2, pd_e1]
  have n3 : pd_n (pd_L3 (pd_L2 (pd_L1 x))) = pc_G 4 (pd_n x) := by
    rw [pd_e3 _ (by
      rw [n2]
      unfold pc_2
      have m : pc_M 51 4 = 858993459 := by decide
      have l1 : pc_1 4 (pd_n x) &&& pc_M 51 4 ≤ pc_M 51 4 := Nat.and_le_right
      have l2 : pc_1 4 (pd_n x) / 4 &&& pc_M 51 4 ≤ pc_M 51 4 := Nat.and_le_right
      omega), n2, g1]
  have bits : mz_su (fun c => (ib x c).toNat) 32 = mz_su (fun j => pc_8 (pd_n x / 256 ^ j % 256)) 4 := pc_bits 4 (pd_n x)
  rw [bits]
  show _ = 0 + pc_8 (pd_n x / 256 ^ 0 % 256) + pc_8 (pd_n x / 256 ^ 1 % 256) + pc_8 (pd_n x / 256 ^ 2 % 256) + pc_8 (pd_n x / 256 ^ 3 % 256)
  rw [pd_G_sum] at n3
  have b : ∀ j, pc_8 (pd_n x / 256 ^ j % 256) ≤ 8 := fun j => pc_8_le _ (Nat.mod_lt _ (by decide))
  have b0 := b 0
  have b1 := b 1
  have b2 := b 2
  have b3 := b 3
  generalize pc_8 (pd_n x / 256 ^ 0 % 256) = p0 at *
  generalize pc_8 (pd_n x / 256 ^ 1 % 256) = p1 at *
  generalize pc_8 (pd_n x / 256 ^ 2 % 256) = p2 at *
  generalize pc_8 (pd_n x / 256 ^ 3 % 256) = p3 at *
  generalize pd_L3 (pd_L2 (pd_L1 x)) = y at *
  clear bits g1 n2 hx e b
  have n4 : pd_n (pd_L4 y) = pd_n y + pd_n y / 256 := by
    unfold pd_L4
    rw [pd_n_add (by rw [pd_sh8]; omega), pd_sh8]
  have n5 : pd_n (pd_L5 (pd_L4 y)) = pd_n (pd_L4 y) + pd_n (pd_L4 y) / 65536 := by
    unfold pd_L5
    rw [pd_n_add (by rw [pd_sh16]; omega), pd_sh16]
  rw [n3] at n4
  have d4 : pd_n (pd_L4 y) = 1 * p0 + 257 * p1 + 65792 * p2 + 16842752 * p3 := by omega
  rw [d4] at n5
  clear n4 n3 d4
  have d5 : (1 * p0 + 257 * p1 + 65792 * p2 + 16842752 * p3) / 65536 = p2 + 257 * p3 := by omega
  rw [d5] at n5
  clear d5
  omega
theorem ib_or (a b : Int32) (c : Nat) : ib (a ||| b) c = (ib a c || ib b c) := by unfold ib; rw [Int32.toBitVec_or, BitVec.getLsbD_or]
theorem ib_0 (c : Nat) : ib 0 c = false := by
  show (0#32).getLsbD c = false
  simp
theorem ib_bitp : ∀ k, k < 16 → ((1 : Int32) <<< (nI k &&& 31)).toBitVec = BitVec.twoPow 32 k := by decide +kernel
theorem ib_bit {k : Nat} (hk : k < 16) (c : Nat) : ib ((1 : Int32) <<< (nI k &&& 31)) c = (k == c) := by
  unfold ib
  rw [ib_bitp k hk, BitVec.getLsbD_twoPow, decide_eq_true (show k < 32 by omega), Bool.true_and]
  by_cases e : k = c
  · rw [decide_eq_true e, beq_iff_eq.mpr e]
  · rw [decide_eq_false e, beq_eq_false_iff_ne.mpr e]
def mz_ex (P : Nat → Bool) : Nat → Bool | 0 => false | n + 1 => mz_ex P n || P n
theorem mz_ex_iff {P : Nat → Bool} : ∀ {n : Nat}, mz_ex P n = true ↔ ∃ k, k < n ∧ P k = true
  | 0 => ⟨fun h => (by cases h), fun ⟨k, hk, _⟩ => absurd hk (Nat.not_lt_zero k)⟩
  | n + 1 => by
    show (mz_ex P n || P n) = true ↔ _
    rw [Bool.or_eq_true, mz_ex_iff]
    constructor
    · rintro (⟨k, a, b⟩ | b)
      · exact ⟨k, by omega, b⟩
      · exact ⟨n, by omega, b⟩
    · rintro ⟨k, a, b⟩
      by_cases z : k = n
      · subst z; exact Or.inr b
      · exact Or.inl ⟨k, by omega, b⟩
theorem mz_ex_cong {P Q : Nat → Bool} : ∀ {n : Nat}, (∀ k, k < n → P k = Q k) → mz_ex P n = mz_ex Q n
  | 0, _ => rfl
  | n + 1, h => by
    show (mz_ex P n || P n) = (mz_ex Q n || Q n)
    rw [mz_ex_cong (fun k hk => h k (by omega)), h n (by omega)]
/-- whether a pattern occurs -/
def mm_has (M : mm_T) (q : Nat) : Bool := mz_ex (fun k => mz_ex (fun s => fg_ed (M.2.2.1 k) s == q) 4) M.1
def mm_dp (M : mm_T) : Nat := mz_su (fun q => (mm_has M q).toNat) 16
theorem fg_rot {f : fg_T} (ht : fg_tn f < 4) (q : Nat) : mz_ex (fun s => fg_at f s == q) 4 = mz_ex (fun s => fg_ed f s == q) 4 := by
  rw [Bool.eq_iff_iff, mz_ex_iff, mz_ex_iff]
  constructor
  · rintro ⟨s, hs, e⟩
    exact ⟨(s + 4 - fg_tn f) % 4, by omega, e⟩
  · rintro ⟨s, hs, e⟩
    refine ⟨(s + fg_tn f) % 4, by omega, ?_⟩
    show (fg_ed f (((s + fg_tn f) % 4 + 4 - fg_tn f) % 4) == q) = true
    rw [show ((s + fg_tn f) % 4 + 4 - fg_tn f) % 4 = s by omega]
    exact e
theorem c_71 {h : jx_H} {C : cl_T} (I : cl_I h C) : jx_A 71 [.ref 200] h = some (.inl (some (.int (nI (mm_dp C.1)))), h) := by
  obtain ⟨nx, J⟩ := I
  obtain ⟨p, A, g, H, W, hF, ho⟩ := J.2.1
  have hn := bd_n20 H
  rw [a_71]
  refine mz_inv (γ := Int32 × Value) (fun i z => jx_E 71 4 [.ref 200, .int z.1, .int (nI i), z.2] [] h) (fun i z => ∀ c, ib z.1 c = mz_ex (fun k => mz_ex (fun s => fg_at (C.1.2.2.1 k) s == c) 4) i) C.1.1 (fun X => X = some (.inl (some (.int (nI (mm_dp C.1)))), h)) ?_ ?_ 0 (0, jx_j) (Nat.zero_le _) (fun c => ib_0 c)
  · rintro ⟨acc, v⟩ I
    show jx_E 71 4 _ _ _ = _
    rw [b_71_4, cl_0 J, bd_n H, if_pos (nI_le (Nat.le_refl _) (by omega)), jx_cI_e (m_244 acc h)]
    refine congrArg (fun z => (some (.inl (some (.int (nI z))), h) : jx_R)) ?_
    have e : ∀ c, ib acc c = mm_has C.1 c := fun c => by
      refine (I c).trans (mz_ex_cong (fun k hk => fg_rot ?_ c))
      have := (bd_ok H (bd_p H hk)).2.2.2.1
      rw [hF k hk] at this
      exact this
    rw [show (32 : Nat) = 16 + 16 from rfl, mz_su_add, mz_su_cong (fun c _ => by rw [e c]), mz_su_0 (f := fun i => (ib acc (16 + i)).toNat) (fun i hi => ?_)]
    · rfl
    · show (ib acc (16 + i)).toNat = 0
      rw [e]
      cases z : mm_has C.1 (16 + i) with
      | false => rfl
      | true =>
        exfalso
        obtain ⟨k, hk, z2⟩ := mz_ex_iff.mp z
        obtain ⟨s, hs, z3⟩ := mz_ex_iff.mp z2
        have := (bd_ok H (bd_p H hk)).2.2.1 s
        rw [hF k hk] at this
        have := beq_iff_eq.mp z3
        omega
  · rintro i ⟨acc, v⟩ hi I
    have hp := bd_p H hi
    refine Or.inr ?_
    show ∃ g' : Int32 × Value, (∀ c, ib g'.1 c = mz_ex (fun k => mz_ex (fun s => fg_at (C.1.2.2.1 k) s == c) 4) (i + 1)) ∧ jx_E 71 4 [.ref 200, .int acc, .int (nI i), v] [] h = jx_E 71 4 [.ref 200, .int g'.1, .int (nI (i + 1)), g'.2] [] h
    have e0 : jx_E 71 4 [.ref 200, .int acc, .int (nI i), v] [] h = jx_E 71 17 [.ref 200, .int acc, .int (nI i), .int (nI 0)] [] h := by
      rw [b_71_4, cl_0 J, bd_n H, if_neg (nI_ge hi (by omega))]
      rfl
    rw [e0]
    refine mz_inv (γ := Int32) (fun s z => jx_E 71 17 [.ref 200, .int z, .int (nI i), .int (nI s)] [] h) (fun s z => ∀ c, ib z c = (mz_ex (fun k => mz_ex (fun s => fg_at (C.1.2.2.1 k) s == c) 4) i || mz_ex (fun s => fg_at (C.1.2.2.1 i) s == c) s)) 4
      (fun X => ∃ g' : Int32 × Value, (∀ c, ib g'.1 c = mz_ex (fun k => mz_ex (fun s => fg_at (C.1.2.2.1 k) s == c) 4) (i + 1)) ∧ X = jx_E 71 4 [.ref 200, .int g'.1, .int (nI (i + 1)), g'.2] [] h) ?_ ?_ 0 acc (by decide) (fun c => by rw [I c]; exact (Bool.or_false _).symm)
    · intro z hz
      refine ⟨(z, .int (nI 4)), hz, ?_⟩
      show jx_E 71 17 _ _ _ = _
      rw [b_71_17, if_pos (by decide), nI_1]
    · intro s z hs hz
      have lt := fg_at_lt (bd_ok H hp) s
      refine Or.inr ⟨z ||| ((1 : Int32) <<< (nI (fg_at (A (p i)) s) &&& 31)), fun c => ?_, ?_⟩
      · rw [ib_or, hz, ib_bit lt, hF i hi, Bool.or_assoc]
        rfl
      · show jx_E 71 17 _ _ _ = jx_E 71 17 _ _ _
        rw [b_71_17, if_neg (show ¬ (4 : Int32) ≤ nI s from nI_ge hs (by decide)), cl_0 J, bd_fr H, bd_at H (by omega), bd_fis H hp, jx_cI_e (m_22 H hp hs), nI_1]
end JX
