/-! Counting bits. -/
section JX
theorem mz_su_add (f : Nat → Nat) (a : Nat) : ∀ b, mz_su f (a + b) = mz_su f a + mz_su (fun i => f (a + i)) b
  | 0 => rfl
  | b + 1 => by
    show mz_su f (a + b) + f (a + b) = mz_su f a + (mz_su (fun i => f (a + i)) b + f (a + b))
    rw [mz_su_add f a b, Nat.add_assoc]
def pc_M (k : Nat) : Nat → Nat | 0 => 0 | n + 1 => k + 256 * pc_M k n
def pc_8 (b : Nat) : Nat := mz_su (fun i => (b.testBit i).toNat) 8
def pc_G : Nat → Nat → Nat | 0, _ => 0 | n + 1, x => pc_8 (x % 256) + 256 * pc_G n (x / 256)
def pc_1 (n x : Nat) : Nat := x - ((x / 2) &&& pc_M 85 n)
def pc_2 (n x : Nat) : Nat := (x &&& pc_M 51 n) + ((x / 4) &&& pc_M 51 n)
def pc_3 (n x : Nat) : Nat := (x + x / 16) &&& pc_M 15 n
def pc_f (b : Nat) : Nat := b - ((b / 2) &&& 85)
def pc_g (d : Nat) : Nat := (d &&& 51) + ((d / 4) &&& 51)
theorem pc_land {u v k m : Nat} (hv : v < 256) (hk : k < 256) : (256 * u + v) &&& (k + 256 * m) = 256 * (u &&& m) + (v &&& k) := by
  have hvk : v &&& k < 256 := Nat.lt_of_le_of_lt Nat.and_le_left hv
  apply Nat.eq_of_testBit_eq
  intro i
  rw [Nat.testBit_and, Nat.add_comm k]
  rw [show (256 : Nat) = 2 ^ 8 from rfl] at *
  rw [Nat.testBit_two_pow_mul_add _ hv, Nat.testBit_two_pow_mul_add _ hk, Nat.testBit_two_pow_mul_add _ hvk]
  split <;> rw [Nat.testBit_and]
theorem pc_q1 : ∀ r, r < 2 → ∀ b, b < 256 → (128 * r + b / 2) &&& 85 = (b / 2) &&& 85 := by decide +kernel
theorem pc_q2 : ∀ r, r < 4 → ∀ d, d < 256 → (64 * r + d / 4) &&& 51 = (d / 4) &&& 51 := by decide +kernel
theorem pc_q3 : ∀ b, b < 256 → (b / 2) &&& 85 ≤ b ∧ pc_f b < 256 ∧ pc_g (pc_f b) ≤ 68 ∧ pc_g (pc_f b) % 16 ≤ 4 := by decide +kernel
theorem pc_q4 : ∀ r, r < 5 → ∀ b, b < 256 → (pc_g (pc_f b) + 16 * r + pc_g (pc_f b) / 16) &&& 15 = pc_8 b := by decide +kernel
theorem pc_8_le : ∀ b, b < 256 → pc_8 b ≤ 8 := by decide +kernel
theorem pc_all : ∀ n x, x < 256 ^ n → pc_3 n (pc_2 n (pc_1 n x)) = pc_G n x ∧ pc_2 n (pc_1 n x) % 16 ≤ 4
  | 0, x, hx => by
    have : x = 0 := by rw [Nat.pow_zero] at hx; omega
    subst this
    exact ⟨by decide, by decide⟩
  | n + 1, x, hx => by
    have hb : x % 256 < 256 := Nat.mod_lt _ (by decide)
    have hy : x / 256 < 256 ^ n := by rw [Nat.pow_succ] at hx; exact Nat.div_lt_of_lt_mul (by omega)
    obtain ⟨i1, i2⟩ := pc_all n (x / 256) hy
    obtain ⟨k1, k2, k3, k4⟩ := pc_q3 _ hb
    have hx' : x = 256 * (x / 256) + x % 256 := by omega
    generalize x % 256 = b at *
    generalize x / 256 = y at *
    subst hx'
    have e1 : pc_1 (n + 1) (256 * y + b) = 256 * pc_1 n y + pc_f b := by
      unfold pc_1
      have : (256 * y + b) / 2 = 256 * (y / 2) + (128 * (y % 2) + b / 2) := by omega
      rw [this, show pc_M 85 (n + 1) = 85 + 256 * pc_M 85 n from rfl, pc_land (by omega) (by decide), pc_q1 _ (by omega) b hb]
      have l : y / 2 &&& pc_M 85 n ≤ y := Nat.le_trans Nat.and_le_left (Nat.div_le_self _ _)
      unfold pc_f
      omega
    have e2 : ∀ z d, d < 256 → pc_2 (n + 1) (256 * z + d) = 256 * pc_2 n z + pc_g d := fun z d hd => by
      unfold pc_2
      have : (256 * z + d) / 4 = 256 * (z / 4) + (64 * (z % 4) + d / 4) := by omega
      rw [this, show pc_M 51 (n + 1) = 51 + 256 * pc_M 51 n from rfl, pc_land hd (by decide), pc_land (by omega) (by decide), pc_q2 _ (by omega) d hd]
      unfold pc_g
      omega
    rw [e1, e2 _ _ k2]
    refine ⟨?_, by omega⟩
    have w4 := i2
    show pc_3 (n + 1) (256 * pc_2 n (pc_1 n y) + pc_g (pc_f b)) = pc_8 ((256 * y + b) % 256) + 256 * pc_G n ((256 * y + b) / 256)
    rw [show (256 * y + b) % 256 = b by omega, show (256 * y + b) / 256 = y by omega, ← i1]
    generalize pc_2 n (pc_1 n y) = w at *
    unfold pc_3
    have : 256 * w + pc_g (pc_f b) + (256 * w + pc_g (pc_f b)) / 16 = 256 * (w + w / 16) + (pc_g (pc_f b) + 16 * (w % 16) + pc_g (pc_f b) / 16) := by omega
    rw [this, show pc_M 15 (n + 1) = 15 + 256 * pc_M 15 n from rfl, pc_land (by omega) (by decide), pc_q4 _ (by omega) b hb]
    omega
/-- so many bits of the lower bytes -/
theorem pc_bits : ∀ n x, mz_su (fun c => (x.testBit c).toNat) (8 * n) = mz_su (fun j => pc_8 (x / 256 ^ j % 256)) n
  | 0, _ => rfl
  | n + 1, x => by
    show mz_su (fun c => (x.testBit c).toNat) (8 * n + 8) = mz_su (fun j => pc_8 (x / 256 ^ j % 256)) n + pc_8 (x / 256 ^ n % 256)
    rw [mz_su_add, pc_bits n x]
    congr 1
    unfold pc_8
    refine mz_su_cong (fun i hi => ?_)
    have : x / 256 ^ n % 256 = x / 2 ^ (8 * n) % 2 ^ 8 := by rw [show (256 : Nat) = 2 ^ 8 from rfl, ← Nat.pow_mul]
    rw [this, Nat.testBit_mod_two_pow, decide_eq_true hi, Bool.true_and, Nat.testBit_div_two_pow, Nat.add_comm]
def pc_S (x : Int64) (k : Nat) (y : Int64) : Prop := y.toBitVec.toNat = x.toBitVec.toNat / 2 ^ k
def pc_L1 (x : Int64) : Int64 := x - (((x.toUInt64 >>> ((1 : Int32).toInt64.toUInt64 &&& Int64.toUInt64 63)).toInt64) &&& 6148914691236517205)
def pc_L2 (x : Int64) : Int64 := (x &&& 3689348814741910323) + (((x.toUInt64 >>> ((2 : Int32).toInt64.toUInt64 &&& Int64.toUInt64 63)).toInt64) &&& 3689348814741910323)
def pc_L3 (x : Int64) : Int64 := (x + ((x.toUInt64 >>> ((4 : Int32).toInt64.toUInt64 &&& Int64.toUInt64 63)).toInt64)) &&& 1085102592571150095
def pc_L4 (x : Int64) : Int64 := x + ((x.toUInt64 >>> ((8 : Int32).toInt64.toUInt64 &&& Int64.toUInt64 63)).toInt64)
def pc_L5 (x : Int64) : Int64 := x + ((x.toUInt64 >>> ((16 : Int32).toInt64.toUInt64 &&& Int64.toUInt64 63)).toInt64)
def pc_L6 (x : Int64) : Int64 := x + ((x.toUInt64 >>> ((32 : Int32).toInt64.toUInt64 &&& Int64.toUInt64 63)).toInt64)
def pc_n (x : Int64) : Nat := x.toBitVec.toNat
theorem pc_n_lt (x : Int64) : pc_n x < 2 ^ 64 := x.toBitVec.isLt
theorem pc_n_and (x y : Int64) : pc_n (x &&& y) = pc_n x &&& pc_n y := BitVec.toNat_and _ _
theorem pc_n_add {x y : Int64} (h : pc_n x + pc_n y < 2 ^ 64) : pc_n (x + y) = pc_n x + pc_n y := BitVec.toNat_add_of_lt h
theorem pc_n_sub {x y : Int64} (h : pc_n y ≤ pc_n x) : pc_n (x - y) = pc_n x - pc_n y := BitVec.toNat_sub_of_le h
theorem pc_sh1 (x : Int64) : pc_n ((x.toUInt64 >>> ((1 : Int32).toInt64.toUInt64 &&& Int64.toUInt64 63)).toInt64) = pc_n x / 2 := (BitVec.toNat_ushiftRight x.toBitVec 1).trans (Nat.shiftRight_eq_div_pow _ 1)
theorem pc_sh2 (x : Int64) : pc_n ((x.toUInt64 >>> ((2 : Int32).toInt64.toUInt64 &&& Int64.toUInt64 63)).toInt64) = pc_n x / 4 := (BitVec.toNat_ushiftRight x.toBitVec 2).trans (Nat.shiftRight_eq_div_pow _ 2)
theorem pc_sh4 (x : Int64) : pc_n ((x.toUInt64 >>> ((4 : Int32).toInt64.toUInt64 &&& Int64.toUInt64 63)).toInt64) = pc_n x / 16 := (BitVec.toNat_ushiftRight x.toBitVec 4).trans (Nat.shiftRight_eq_div_pow _ 4)
theorem pc_sh8 (x : Int64) : pc_n ((x.toUInt64 >>> ((8 : Int32).toInt64.toUInt64 &&& Int64.toUInt64 63)).toInt64) = pc_n x / 256 := (BitVec.toNat_ushiftRight x.toBitVec 8).trans (Nat.shiftRight_eq_div_pow _ 8)
theorem pc_sh16 (x : Int64) : pc_n ((x.toUInt64 >>> ((16 : Int32).toInt64.toUInt64 &&& Int64.toUInt64 63)).toInt64) = pc_n x / 65536 := (BitVec.toNat_ushiftRight x.toBitVec 16).trans (Nat.shiftRight_eq_div_pow _ 16)
theorem pc_sh32 (x : Int64) : pc_n ((x.toUInt64 >>> ((32 : Int32).toInt64.toUInt64 &&& Int64.toUInt64 63)).toInt64) = pc_n x / 4294967296 := (BitVec.toNat_ushiftRight x.toBitVec 32).trans (Nat.shiftRight_eq_div_pow _ 32)
theorem pc_M_le {k : Nat} (hk : k < 256) : ∀ n, pc_M k n < 256 ^ n
  | 0 => (by decide : (0 : Nat) < 1)
  | n + 1 => by
    have := pc_M_le hk n
    show k + 256 * pc_M k n < 256 ^ (n + 1)
    rw [Nat.pow_succ]; omega
theorem pc_e1 (x : Int64) : pc_n (pc_L1 x) = pc_1 8 (pc_n x) := by
  unfold pc_L1
  have : pc_n (((x.toUInt64 >>> ((1 : Int32).toInt64.toUInt64 &&& Int64.toUInt64 63)).toInt64) &&& 6148914691236517205) = (pc_n x / 2) &&& pc_M 85 8 := by rw [pc_n_and, pc_sh1]; rfl
  rw [pc_n_sub (by rw [this]; exact Nat.le_trans Nat.and_le_left (Nat.div_le_self _ _)), this]
  rfl
theorem pc_e2 (x : Int64) : pc_n (pc_L2 x) = pc_2 8 (pc_n x) := by
  unfold pc_L2
  have a : pc_n (x &&& 3689348814741910323) = pc_n x &&& pc_M 51 8 := by rw [pc_n_and]; rfl
  have b : pc_n (((x.toUInt64 >>> ((2 : Int32).toInt64.toUInt64 &&& Int64.toUInt64 63)).toInt64) &&& 3689348814741910323) = (pc_n x / 4) &&& pc_M 51 8 := by rw [pc_n_and, pc_sh2]; rfl
  have m : pc_M 51 8 = 3689348814741910323 := by decide
  have l1 : pc_n x &&& pc_M 51 8 ≤ pc_M 51 8 := Nat.and_le_right
  have l2 : pc_n x / 4 &&& pc_M 51 8 ≤ pc_M 51 8 := Nat.and_le_right
  rw [pc_n_add (by rw [a, b]; omega), a, b]
  rfl
theorem pc_e3 (x : Int64) (h : pc_n x ≤ 2 * 3689348814741910323) : pc_n (pc_L3 x) = pc_3 8 (pc_n x) := by
  unfold pc_L3
  rw [pc_n_and, pc_n_add (by rw [pc_sh4]; omega), pc_sh4]
  rfl
theorem pc_G_sum (x : Nat) : pc_G 8 x = pc_8 (x / 256 ^ 0 % 256) + 256 * pc_8 (x / 256 ^ 1 % 256) + 65536 * pc_8 (x / 256 ^ 2 % 256) + 16777216 * pc_8 (x / 256 ^ 3 % 256) + 4294967296 * pc_8 (x / 256 ^ 4 % 256) + 1099511627776 * pc_8 (x / 256 ^ 5 % 256) + 281474976710656 * pc_8 (x / 256 ^ 6 % 256) + 72057594037927936 * pc_8 (x / 256 ^ 7 % 256) := by
  show pc_8 (x % 256) + 256 * (pc_8 (x / 256 % 256) + 256 * (pc_8 (x / 256 / 256 % 256) + 256 * (pc_8 (x / 256 / 256 / 256 % 256) + 256 * (pc_8 (x / 256 / 256 / 256 / 256 % 256) + 256 * (pc_8 (x / 256 / 256 / 256 / 256 / 256 % 256) + 256 * (pc_8 (x / 256 / 256 / 256 / 256 / 256 / 256 % 256) + 256 * (pc_8 (x / 256 / 256 / 256 / 256 / 256 / 256 / 256 % 256) + 256 * 0))))))) = _
  rw [Nat.div_div_eq_div_mul, Nat.div_div_eq_div_mul, Nat.div_div_eq_div_mul, Nat.div_div_eq_div_mul, Nat.div_div_eq_div_mul, Nat.div_div_eq_div_mul]
  rw [show (256 : Nat) ^ 0 = 1 from rfl, Nat.div_one, show (256 : Nat) ^ 1 = 256 from rfl, show (256 : Nat) ^ 2 = 256 * 256 from rfl, show (256 : Nat) ^ 3 = 256 * 256 * 256 from rfl, show (256 : Nat) ^ 4 = 256 * 256 * 256 * 256 from rfl, show (256 : Nat) ^ 5 = 256 * 256 * 256 * 256 * 256 from rfl, show (256 : Nat) ^ 6 = 256 * 256 * 256 * 256 * 256 * 256 from rfl, show (256 : Nat) ^ 7 = 256 * 256 * 256 * 256 * 256 * 256 * 256 from rfl]
  omega
theorem pc_i32 (x : Int64) : (x.toInt32 &&& 127) = nI (pc_n x % 128) := by
  apply Int32.toBitVec_inj.mp
  apply BitVec.eq_of_toNat_eq
  rw [Int32.toBitVec_and, Int64.toBitVec_toInt32, BitVec.signExtend_eq_setWidth_of_le _ (by decide), BitVec.toNat_and, BitVec.toNat_setWidth]
  show x.toBitVec.toNat % 2 ^ 32 &&& (2 ^ 7 - 1) = (BitVec.ofNat 32 (pc_n x % 128)).toNat
  rw [Nat.and_two_pow_sub_one_eq_mod, BitVec.toNat_ofNat]
  unfold pc_n
  omega
theorem m_245 (x : Int64) (h : jx_H) : jx_A 245 [.long x] h = some (.inl (some (.int (nI (mz_su (fun c => (mb x c).toNat) 64)))), h) := by
  have e : jx_A 245 [.long x] h = some (.inl (some (.int ((pc_L6 (pc_L5 (pc_L4 (pc_L3 (pc_L2 (pc_L1 x)))))).toInt32 &&& 127))), h) := a_245 x h
  rw [e, pc_i32]
  refine congrArg (fun z => (some (.inl (some (.int (nI z))), h) : jx_R)) ?_
  have hx : pc_n x < 256 ^ 8 := pc_n_lt x
  obtain ⟨g1, -⟩ := pc_all 8 (pc_n x) hx
  have n2 : pc_n (pc_L2 (pc_L1 x)) = pc_2 8 (pc_1 8 (pc_n x)) := by rw [pc_e2, pc_e1]
  have n3 : pc_n (pc_L3 (pc_L2 (pc_L1 x))) = pc_G 8 (pc_n x) := by
    rw [pc_e3 _ (by
      rw [n2]
      unfold pc_2
      have m : pc_M 51 8 = 3689348814741910323 := by decide
      have l1 : pc_1 8 (pc_n x) &&& pc_M 51 8 ≤ pc_M 51 8 := Nat.and_le_right
      have l2 : pc_1 8 (pc_n x) / 4 &&& pc_M 51 8 ≤ pc_M 51 8 := Nat.and_le_right
      omega), n2, g1]
  have bits : mz_su (fun c => (mb x c).toNat) 64 = mz_su (fun j => pc_8 (pc_n x / 256 ^ j % 256)) 8 := pc_bits 8 (pc_n x)
  rw [bits]
  show _ = 0 + pc_8 (pc_n x / 256 ^ 0 % 256) + pc_8 (pc_n x / 256 ^ 1 % 256) + pc_8 (pc_n x / 256 ^ 2 % 256) + pc_8 (pc_n x / 256 ^ 3 % 256) + pc_8 (pc_n x / 256 ^ 4 % 256) + pc_8 (pc_n x / 256 ^ 5 % 256) + pc_8 (pc_n x / 256 ^ 6 % 256) + pc_8 (pc_n x / 256 ^ 7 % 256)
  rw [pc_G_sum] at n3
  have b : ∀ j, pc_8 (pc_n x / 256 ^ j % 256) ≤ 8 := fun j => pc_8_le _ (Nat.mod_lt _ (by decide))
  have b0 := b 0
  have b1 := b 1
  have b2 := b 2
  have b3 := b 3
  have b4 := b 4
  have b5 := b 5
  have b6 := b 6
  have b7 := b 7
  generalize pc_8 (pc_n x / 256 ^ 0 % 256) = p0 at *
  generalize pc_8 (pc_n x / 256 ^ 1 % 256) = p1 at *
  generalize pc_8 (pc_n x / 256 ^ 2 % 256) = p2 at *
  generalize pc_8 (pc_n x / 256 ^ 3 % 256) = p3 at *
  generalize pc_8 (pc_n x / 256 ^ 4 % 256) = p4 at *
  generalize pc_8 (pc_n x / 256 ^ 5 % 256) = p5 at *
  generalize pc_8 (pc_n x / 256 ^ 6 % 256) = p6 at *
  generalize pc_8 (pc_n x / 256 ^ 7 % 256) = p7 at *
  generalize pc_L3 (pc_L2 (pc_L1 x)) = y at *
  clear bits g1 n2 hx e b
  have n4 : pc_n (pc_L4 y) = pc_n y + pc_n y / 256 := by
    unfold pc_L4
    rw [pc_n_add (by rw [pc_sh8]; omega), pc_sh8]
  have n5 : pc_n (pc_L5 (pc_L4 y)) = pc_n (pc_L4 y) + pc_n (pc_L4 y) / 65536 := by
    unfold pc_L5
    rw [pc_n_add (by rw [pc_sh16]; omega), pc_sh16]
  have n6 : pc_n (pc_L6 (pc_L5 (pc_L4 y))) = pc_n (pc_L5 (pc_L4 y)) + pc_n (pc_L5 (pc_L4 y)) / 4294967296 := by
    unfold pc_L6
    rw [pc_n_add (by rw [pc_sh32]; omega), pc_sh32]
  rw [n3] at n4
  have d4 : pc_n (pc_L4 y) = 1 * p0 + 257 * p1 + 65792 * p2 + 16842752 * p3 + 4311744512 * p4 + 1103806595072 * p5 + 282574488338432 * p6 + 72339069014638592 * p7 := by omega
  rw [d4] at n5
  clear n4 n3 d4
  have d5 : pc_n (pc_L5 (pc_L4 y)) = 1 * p0 + 257 * p1 + 65793 * p2 + 16843009 * p3 + 4311810304 * p4 + 1103823437824 * p5 + 282578800082944 * p6 + 72340172821233664 * p7 := by omega
  rw [d5] at n6
  clear n5 d5
  have d6 : (1 * p0 + 257 * p1 + 65793 * p2 + 16843009 * p3 + 4311810304 * p4 + 1103823437824 * p5 + 282578800082944 * p6 + 72340172821233664 * p7) / 4294967296 = 1 * p4 + 257 * p5 + 65793 * p6 + 16843009 * p7 := by omega
  rw [d6] at n6
  clear d6
  have d7 : pc_n (pc_L6 (pc_L5 (pc_L4 y))) = p0 + p1 + p2 + p3 + p4 + p5 + p6 + p7 + 128 * (2 * p1 + 514 * p2 + 131586 * p3 + 33686018 * p4 + 8623620610 * p5 + 2207646876162 * p6 + 565157600297474 * p7) := by omega
  rw [d7, Nat.add_mul_mod_self_left, Nat.mod_eq_of_lt (by omega)]
  omega
end JX
