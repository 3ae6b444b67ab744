/-! Guesses: an outline that is looked at, weights, turns. -/
section JX
def zI (z : Int) : Int32 := Int32.ofInt z
theorem zI_n (n : Nat) : zI (n : Int) = nI n := Int32.ofInt_eq_ofNat
theorem zI_add (a b : Int) : zI a + zI b = zI (a + b) := (Int32.ofInt_add a b).symm
theorem zI_sub (a b : Int) : zI a - zI b = zI (a - b) := (Int32.ofInt_sub a b).symm
theorem zI_toInt {z : Int} (h : -1000000 ≤ z) (h2 : z ≤ 1000000) : (zI z).toInt = z := Int32.toInt_ofInt_of_le (by omega) (by omega)
theorem zI_lt {a b : Int} (h : -1000000 ≤ a) (h2 : a ≤ 1000000) (h3 : -1000000 ≤ b) (h4 : b ≤ 1000000) : zI a < zI b ↔ a < b := by rw [Int32.lt_iff_toInt_lt, zI_toInt h h2, zI_toInt h3 h4]
theorem zI_le {a b : Int} (h : -1000000 ≤ a) (h2 : a ≤ 1000000) (h3 : -1000000 ≤ b) (h4 : b ≤ 1000000) : zI a ≤ zI b ↔ a ≤ b := by rw [Int32.le_iff_toInt_le, zI_toInt h h2, zI_toInt h3 h4]
theorem zI_eq {a b : Int} (h : -1000000 ≤ a) (h2 : a ≤ 1000000) (h3 : -1000000 ≤ b) (h4 : b ≤ 1000000) : zI a = zI b ↔ a = b := by rw [← Int32.toInt_inj, zI_toInt h h2, zI_toInt h3 h4]
def mz_sz (f : Nat → Int) : Nat → Int | 0 => 0 | n + 1 => mz_sz f n + f n
/-- what one side adds to the weight of a fragment for a cell with a turn -/
def mm_w1 (o : Nat → Option fg_T) (f : fg_T) (c t s : Nat) : Int := match (mz_bs c s).bind o with
  | none => 0
  | some f' => (bif fg_ed f ((s + 4 - t) % 4) + fg_at f' ((s + 2) % 4) == 15 then 4 else -3) + (bif fg_co f == fg_co f' then 1 else 0)
def mm_wt (o : Nat → Option fg_T) (f : fg_T) (c t : Nat) : Int := mz_sz (mm_w1 o f c t) 4
theorem mm_w1_b (o : Nat → Option fg_T) (f : fg_T) (c t s : Nat) : -3 ≤ mm_w1 o f c t s ∧ mm_w1 o f c t s ≤ 5 := by
  unfold mm_w1
  split
  · omega
  · rename_i f' _
    cases (fg_ed f ((s + 4 - t) % 4) + fg_at f' ((s + 2) % 4) == 15) <;> cases (fg_co f == fg_co f') <;> decide
theorem mm_wt_b (o : Nat → Option fg_T) (f : fg_T) (c t : Nat) : -12 ≤ mm_wt o f c t ∧ mm_wt o f c t ≤ 20 := by
  have h0 := mm_w1_b o f c t 0
  have h1 := mm_w1_b o f c t 1
  have h2 := mm_w1_b o f c t 2
  have h3 := mm_w1_b o f c t 3
  show -12 ≤ 0 + mm_w1 o f c t 0 + mm_w1 o f c t 1 + mm_w1 o f c t 2 + mm_w1 o f c t 3 ∧ 0 + mm_w1 o f c t 0 + mm_w1 o f c t 1 + mm_w1 o f c t 2 + mm_w1 o f c t 3 ≤ 20
  omega
/-- the turn of the greatest of the first numbers, the smallest one of several -/
def mm_bt (w : Nat → Int) : Nat → Nat | 0 => 0 | n + 1 => if w (mm_bt w n) < w (n + 1) then n + 1 else mm_bt w n
def mm_tn (o : Nat → Option fg_T) (f : fg_T) (c : Nat) : Nat := mm_bt (mm_wt o f c) 3
def mm_tw (o : Nat → Option fg_T) (f : fg_T) (c : Nat) : Int := mm_wt o f c (mm_tn o f c)
theorem mm_bt_le (w : Nat → Int) : ∀ n, mm_bt w n ≤ n
  | 0 => Nat.le_refl _
  | n + 1 => by
    unfold mm_bt
    split
    · omega
    · have := mm_bt_le w n; omega
theorem mm_tw_b (o : Nat → Option fg_T) (f : fg_T) (c : Nat) : -12 ≤ mm_tw o f c ∧ mm_tw o f c ≤ 20 := mm_wt_b o f c _
theorem mm_w1_cong {o o' : Nat → Option fg_T} (h : ∀ c, c < 64 → o c = o' c) {f : fg_T} {c t s : Nat} (hc : c < 64) (hs : s < 4) : mm_w1 o f c t s = mm_w1 o' f c t s := by
  unfold mm_w1
  rw [mm_nb_cong h hc hs]
theorem mm_wt_cong {o o' : Nat → Option fg_T} (h : ∀ c, c < 64 → o c = o' c) {f : fg_T} {c : Nat} (hc : c < 64) : mm_wt o f c = mm_wt o' f c := by
  funext t
  show 0 + mm_w1 o f c t 0 + mm_w1 o f c t 1 + mm_w1 o f c t 2 + mm_w1 o f c t 3 = 0 + mm_w1 o' f c t 0 + mm_w1 o' f c t 1 + mm_w1 o' f c t 2 + mm_w1 o' f c t 3
  rw [mm_w1_cong h hc (by decide), mm_w1_cong h hc (by decide), mm_w1_cong h hc (by decide), mm_w1_cong h hc (by decide)]
theorem mm_tn_cong {o o' : Nat → Option fg_T} (h : ∀ c, c < 64 → o c = o' c) {f : fg_T} {c : Nat} (hc : c < 64) : mm_tn o f c = mm_tn o' f c := by unfold mm_tn; rw [mm_wt_cong h hc]
theorem mm_tw_cong {o o' : Nat → Option fg_T} (h : ∀ c, c < 64 → o c = o' c) {f : fg_T} {c : Nat} (hc : c < 64) : mm_tw o f c = mm_tw o' f c := by unfold mm_tw; rw [mm_tn_cong h hc, mm_wt_cong h hc]
-- the object
def gs_I (h : jx_H) (q : Nat) (wa co wt : Nat → Int32) (gp : Int32) : Prop :=
  h.1 q = some (4, [.ref (q + 1), .ref (q + 2), .ref (q + 3), .int gp]) ∧ h.1 (q + 1) = some (100, mz_ar 4 (fun s => .int (wa s))) ∧ h.1 (q + 2) = some (101, mz_ar 4 (fun s => .int (co s))) ∧ h.1 (q + 3) = some (100, mz_ar 20 (fun k => .int (wt k))) ∧ jx_nc ≤ q
/-- it has looked at a cell's outline -/
def gs_L (o : Nat → Option fg_T) (c : Nat) (wa co : Nat → Int32) : Prop := ∀ s, s < 4 → match (mz_bs c s).bind o with
  | none => wa s = -1
  | some f' => wa s = nI (15 - fg_at f' ((s + 2) % 4)) ∧ co s = nI (fg_co f') ∧ fg_co f' < 65536 ∧ fg_at f' ((s + 2) % 4) < 16
theorem gs_L_cong {o o' : Nat → Option fg_T} (h : ∀ c, c < 64 → o c = o' c) {c : Nat} (hc : c < 64) {wa co : Nat → Int32} (L : gs_L o c wa co) : gs_L o' c wa co := fun s hs => by
  have := L s hs
  rw [mm_nb_cong h hc hs] at this
  exact this
section GS
variable {xs : List Int32} {h : jx_H} {a n nx q : Nat} {p : Nat → Nat} {A : Nat → fg_T} {g : Nat → Option Nat} {wa co wt : Nat → Int32} {gp : Int32}
theorem gs_eq (G : gs_I h q wa co wt gp) {h' : jx_H} {lo hi : Nat} (e : mz_eq lo hi h h') (k : q + 4 ≤ lo ∨ hi ≤ q) : gs_I h' q wa co wt gp := by
  obtain ⟨h1, h2, h3, h4, h5⟩ := G
  exact ⟨mz_eq_at e (by omega) h1, mz_eq_at e (by omega) h2, mz_eq_at e (by omega) h3, mz_eq_at e (by omega) h4, h5⟩
theorem gs_is (G : gs_I h q wa co wt gp) (F : jx_R) : jx_is h q 4 F = F := jx_is_e G.1 F
theorem gs_0 (G : gs_I h q wa co wt gp) (F : Nat → jx_R) : jx_gA h q 4 0 F = F (q + 1) := jx_gA_e G.1 rfl F
theorem gs_1 (G : gs_I h q wa co wt gp) (F : Nat → jx_R) : jx_gA h q 4 1 F = F (q + 2) := jx_gA_e G.1 rfl F
theorem gs_2 (G : gs_I h q wa co wt gp) (F : Nat → jx_R) : jx_gA h q 4 2 F = F (q + 3) := jx_gA_e G.1 rfl F
theorem gs_3 (G : gs_I h q wa co wt gp) (F : Int32 → jx_R) : jx_gI h q 4 3 F = F gp := jx_gI_e G.1 rfl F
theorem gs_wa (G : gs_I h q wa co wt gp) {s : Nat} (hs : s < 4) (F : Int32 → jx_R) : jx_lI h (q + 1) 100 (nI s) F = F (wa s) := mz_lI G.2.1 hs (by decide) rfl F
theorem gs_co (G : gs_I h q wa co wt gp) {s : Nat} (hs : s < 4) (F : Int32 → jx_R) : jx_lI h (q + 2) 101 (nI s) F = F (co s) := mz_lI G.2.2.1 hs (by decide) rfl F
theorem gs_wt (G : gs_I h q wa co wt gp) {k : Nat} (hk : k < 20) (F : Int32 → jx_R) : jx_lI h (q + 3) 100 (nI k) F = F (wt k) := mz_lI G.2.2.2.1 hk (by decide) rfl F
theorem gs_pwa (G : gs_I h q wa co wt gp) {s : Nat} (hs : s < 4) (v : Int32) : ∃ h', (∀ F, jx_st h (q + 1) 100 (nI s) (.int v) F = F h') ∧ gs_I h' q (mz_up wa s v) co wt gp ∧ mz_eq q (q + 4) h h' := by
  obtain ⟨h1, h2, h3, h4, h5⟩ := G
  refine ⟨_, fun F => mz_st h2 (by omega) hs (by decide) F, ⟨by rw [mz_set_n (by omega)]; exact h1, ?_, by rw [mz_set_n (by omega)]; exact h3, by rw [mz_set_n (by omega)]; exact h4, h5⟩, mz_eq_st (by omega) (by omega)⟩
  rw [mz_set_e]
  congr 2
  refine mz_ar_cong (fun j hj => ?_)
  unfold mz_up
  split <;> rfl
theorem gs_pco (G : gs_I h q wa co wt gp) {s : Nat} (hs : s < 4) (v : Int32) : ∃ h', (∀ F, jx_st h (q + 2) 101 (nI s) (.int v) F = F h') ∧ gs_I h' q wa (mz_up co s v) wt gp ∧ mz_eq q (q + 4) h h' := by
  obtain ⟨h1, h2, h3, h4, h5⟩ := G
  refine ⟨_, fun F => mz_st h3 (by omega) hs (by decide) F, ⟨by rw [mz_set_n (by omega)]; exact h1, by rw [mz_set_n (by omega)]; exact h2, ?_, by rw [mz_set_n (by omega)]; exact h4, h5⟩, mz_eq_st (by omega) (by omega)⟩
  rw [mz_set_e]
  congr 2
  refine mz_ar_cong (fun j hj => ?_)
  unfold mz_up
  split <;> rfl
theorem gs_pwt (G : gs_I h q wa co wt gp) {k : Nat} (hk : k < 20) (v : Int32) : ∃ h', (∀ F, jx_st h (q + 3) 100 (nI k) (.int v) F = F h') ∧ gs_I h' q wa co (mz_up wt k v) gp ∧ mz_eq q (q + 4) h h' := by
  obtain ⟨h1, h2, h3, h4, h5⟩ := G
  refine ⟨_, fun F => mz_st h4 (by omega) hk (by decide) F, ⟨by rw [mz_set_n (by omega)]; exact h1, by rw [mz_set_n (by omega)]; exact h2, by rw [mz_set_n (by omega)]; exact h3, ?_, h5⟩, mz_eq_st (by omega) (by omega)⟩
  rw [mz_set_e]
  congr 2
  refine mz_ar_cong (fun j hj => ?_)
  unfold mz_up
  split <;> rfl
theorem gs_pgp (G : gs_I h q wa co wt gp) (v : Int32) : ∃ h', (∀ F, jx_pt h q 4 3 (.int v) F = F h') ∧ gs_I h' q wa co wt v ∧ mz_eq q (q + 4) h h' := by
  obtain ⟨h1, h2, h3, h4, h5⟩ := G
  exact ⟨_, fun F => jx_pt_e h1 h5 (by show 3 < 4; decide) F, ⟨mz_set_e, by rw [mz_set_n (by omega)]; exact h2, by rw [mz_set_n (by omega)]; exact h3, by rw [mz_set_n (by omega)]; exact h4, h5⟩, mz_eq_st (by omega) (by omega)⟩
theorem mz_c16 {v : Nat} (hv : v < 65536) : ((nI v).toUInt32 % 65536).toInt32 = nI v := by
  have : (nI v).toUInt32 = UInt32.ofNat v := by
    apply UInt32.toBitVec_inj.mp
    show (Int32.ofNat v).toBitVec = _
    simp
    rfl
  rw [this]
  apply Int32.toBitVec_inj.mp
  show (UInt32.ofNat v % 65536).toBitVec = (Int32.ofNat v).toBitVec
  apply BitVec.eq_of_toNat_eq
  simp [BitVec.toNat_ofNat]
  omega
theorem m_32 (K : mz_K xs h) (H : bd_I h a n nx p A g) (G : gs_I h q wa co wt gp) (hd : a + 43 ≤ q ∨ q + 4 ≤ a) {c : Nat} (hc : c < 64) :
    ∃ h' wa' co', jx_A 32 [.ref q, .ref a, .int (nI c)] h = some (.inl none, h') ∧ gs_I h' q wa' co' wt (nI c) ∧ gs_L (bd_o A g) c wa' co' ∧ mz_eq q (q + 4) h h' := by
  obtain ⟨h1, x1, G1, t1⟩ := gs_pgp G (nI c)
  rw [a_32, x1]
  refine mz_inv (γ := jx_H × Value) (fun i z => jx_E 32 7 [.ref q, .ref a, .int (nI c), .int (nI i), z.2] [] z.1)
    (fun i z => ∃ wa' co', gs_I z.1 q wa' co' wt (nI c) ∧ (∀ s, s < i → match (mz_bs c s).bind (bd_o A g) with
      | none => wa' s = -1
      | some f' => wa' s = nI (15 - fg_at f' ((s + 2) % 4)) ∧ co' s = nI (fg_co f') ∧ fg_co f' < 65536 ∧ fg_at f' ((s + 2) % 4) < 16) ∧ mz_eq q (q + 4) h z.1) 4
    (fun X => ∃ h' wa' co', X = some (.inl none, h') ∧ gs_I h' q wa' co' wt (nI c) ∧ gs_L (bd_o A g) c wa' co' ∧ mz_eq q (q + 4) h h') ?_ ?_ 0 (h1, jx_j) (by decide) ⟨wa, co, G1, fun s hs => by omega, t1⟩
  · rintro ⟨u, v⟩ ⟨wa', co', Gu, L, tu⟩
    refine ⟨u, wa', co', ?_, Gu, L, tu⟩
    show jx_E 32 7 _ _ _ = _
    rw [b_32_7, if_pos (by decide)]
  · rintro i ⟨u, v⟩ hi ⟨wa', co', Gu, L, tu⟩
    have Ku := mz_K_eq K tu G.2.2.2.2
    have Hu := bd_eq H tu hd
    have e := m_13 Ku Hu hc hi
    have Lk : ∀ (w1 w2 : Nat → Int32), (∀ s, s < i → w1 s = wa' s) → (∀ s, s < i → w2 s = co' s) → (match (mz_bs c i).bind (bd_o A g) with
      | none => w1 i = -1
      | some f' => w1 i = nI (15 - fg_at f' ((i + 2) % 4)) ∧ w2 i = nI (fg_co f') ∧ fg_co f' < 65536 ∧ fg_at f' ((i + 2) % 4) < 16) → ∀ s, s < i + 1 → match (mz_bs c s).bind (bd_o A g) with
      | none => w1 s = -1
      | some f' => w1 s = nI (15 - fg_at f' ((s + 2) % 4)) ∧ w2 s = nI (fg_co f') ∧ fg_co f' < 65536 ∧ fg_at f' ((s + 2) % 4) < 16 := fun w1 w2 e1 e2 e3 s hs => by
        by_cases z : s = i
        · subst z; exact e3
        · rw [e1 s (by omega), e2 s (by omega)]; exact L s (by omega)
    cases e2 : bd_nb g c i with
    | none =>
      obtain ⟨u1, x2, G2, s2⟩ := gs_pwa Gu hi (-1)
      refine Or.inr ⟨(u1, .null), ⟨_, co', G2, Lk _ _ (fun s hs => mz_up_n (by omega)) (fun _ _ => rfl) (by rw [bd_nb_o, e2]; exact mz_up_s), mz_eq_tr tu s2⟩, ?_⟩
      show jx_E 32 7 _ _ _ = jx_E 32 7 _ _ _
      rw [b_32_7, if_neg (show ¬ (4 : Int32) ≤ nI i from nI_ge hi (by decide)), bd_is Hu, jx_cN_n (by rw [e, e2]; rfl), gs_0 Gu, x2, nI_1]
    | some j =>
      have hj := bd_nb20 H hc hi e2
      have ok := bd_ok H hj
      obtain ⟨u1, x2, G2, s2⟩ := gs_pwa Gu hi (nI (15 - fg_at (A j) ((i + 2) % 4)))
      obtain ⟨u2, x3, G3, s3⟩ := gs_pco G2 hi (nI (fg_co (A j)))
      have Hu1 := bd_eq Hu s2 hd
      refine Or.inr ⟨(u2, .ref (bd_f a j)), ⟨_, _, G3, Lk _ _ (fun s hs => mz_up_n (by omega)) (fun s hs => mz_up_n (by omega)) (by rw [bd_nb_o, e2]; exact ⟨mz_up_s, mz_up_s, ok.2.1, fg_at_lt ok _⟩), mz_eq_tr tu (mz_eq_tr s2 s3)⟩, ?_⟩
      show jx_E 32 7 _ _ _ = jx_E 32 7 _ _ _
      rw [b_32_7, if_neg (show ¬ (4 : Int32) ≤ nI i from nI_ge hi (by decide)), bd_is Hu, jx_cN_e (x := bd_f a j) (by rw [e, e2]; rfl), gs_0 Gu, jx_cI_e (m_128 hi u), bd_fis Hu hj, jx_cI_e (m_22 Hu hj (by omega)), mz_15 _ (fg_at_lt ok _), x2, gs_1 G2, bd_fco Hu1 hj, mz_c16 ok.2.1, x3, nI_1]
theorem m_33 (H : bd_I h a n nx p A g) (G : gs_I h q wa co wt gp) {o : Nat → Option fg_T} {c i t : Nat} (L : gs_L o c wa co) (hi : i < 20) (ht : t < 4) : jx_A 33 [.ref q, .ref (bd_f a i), .int (nI t)] h = some (.inl (some (.int (zI (mm_wt o (A i) c t)))), h) := by
  rw [a_33]
  refine mz_lp (fun s => jx_E 33 5 [.ref q, .ref (bd_f a i), .int (nI t), .int (zI (mz_sz (mm_w1 o (A i) c t) s)), .int (nI s)] [] h) 4 _ ?_ ?_ 0 (Nat.zero_le _)
  · show jx_E 33 5 _ _ _ = _
    rw [b_33_5, if_pos (by decide)]
    rfl
  · intro s hs
    show jx_E 33 5 _ _ _ = jx_E 33 5 [.ref q, .ref (bd_f a i), .int (nI t), .int (zI (mz_sz (mm_w1 o (A i) c t) s + mm_w1 o (A i) c t s)), .int (nI (s + 1))] [] h
    have ok := bd_ok H hi
    have hL := L s hs
    rw [b_33_5, if_neg (show ¬ (4 : Int32) ≤ nI s from nI_ge hs (by decide)), gs_0 G, gs_wa G hs]
    unfold mm_w1
    cases e : (mz_bs c s).bind o with
    | none =>
      rw [e] at hL
      rw [if_pos hL, nI_1, Int.add_zero]
    | some f' =>
      rw [e] at hL
      obtain ⟨l1, l2, l3, l4⟩ := hL
      have hE := ok.2.2.1 ((s + 4 - t) % 4)
      rw [l1, if_neg (mz_nIne (by omega)), bd_fed H hi, mz_sub3 s hs t ht, bd_fel H hi (by omega), gs_0 G, gs_wa G hs, l1, nI_1]
      simp only [bd_fco H hi, gs_1 G, gs_co G hs, l2]
      have q1 : (nI (fg_ed (A i) ((s + 4 - t) % 4)) = nI (15 - fg_at f' ((s + 2) % 4))) ↔ fg_ed (A i) ((s + 4 - t) % 4) + fg_at f' ((s + 2) % 4) = 15 := by rw [nI_eq (by omega) (by omega)]; omega
      have q2 : (nI (fg_co (A i)) = nI (fg_co f')) ↔ fg_co (A i) = fg_co f' := nI_eq (by have := ok.2.1; omega) (by omega)
      have e4 : ∀ z : Int, zI z + 4 = zI (z + 4) := fun z => zI_add z 4
      have e30 : (-3 : Int32) = zI (-3) := by decide +kernel
      have e3 : ∀ z : Int, zI z + -3 = zI (z + -3) := fun z => by rw [e30]; exact zI_add z (-3)
      have e1 : ∀ z : Int, zI z + 1 = zI (z + 1) := fun z => zI_add z 1
      by_cases c1 : fg_ed (A i) ((s + 4 - t) % 4) + fg_at f' ((s + 2) % 4) = 15
      · rw [if_pos (q1.mpr c1), show (fg_ed (A i) ((s + 4 - t) % 4) + fg_at f' ((s + 2) % 4) == 15) = true from beq_iff_eq.mpr c1]
        by_cases c2 : fg_co (A i) = fg_co f'
        · rw [if_pos (q2.mpr c2), show (fg_co (A i) == fg_co f') = true from beq_iff_eq.mpr c2, e4, e1, Int.add_assoc]
          rfl
        · rw [if_neg (fun z => c2 (q2.mp z)), show (fg_co (A i) == fg_co f') = false from beq_eq_false_iff_ne.mpr c2, e4]
          rfl
      · rw [if_neg (fun z => c1 (q1.mp z)), show (fg_ed (A i) ((s + 4 - t) % 4) + fg_at f' ((s + 2) % 4) == 15) = false from beq_eq_false_iff_ne.mpr c1]
        by_cases c2 : fg_co (A i) = fg_co f'
        · rw [if_pos (q2.mpr c2), show (fg_co (A i) == fg_co f') = true from beq_iff_eq.mpr c2, e3, e1, Int.add_assoc]
          rfl
        · rw [if_neg (fun z => c2 (q2.mp z)), show (fg_co (A i) == fg_co f') = false from beq_eq_false_iff_ne.mpr c2, e3]
          rfl
theorem m_34 (H : bd_I h a n nx p A g) (G : gs_I h q wa co wt gp) {o : Nat → Option fg_T} {c i : Nat} (L : gs_L o c wa co) (hi : i < 20) : jx_A 34 [.ref q, .ref (bd_f a i)] h = some (.inl (some (.int (nI (mm_tn o (A i) c)))), h) := by
  rw [a_34, gs_is G, jx_cI_e (show jx_A 33 [.ref q, .ref (bd_f a i), .int 0] h = _ from m_33 H G L hi (t := 0) (by decide))]
  refine mz_lpj (fun k (v : Value) => jx_E 34 12 [.ref q, .ref (bd_f a i), .int (nI (mm_bt (mm_wt o (A i) c) k)), .int (zI (mm_wt o (A i) c (mm_bt (mm_wt o (A i) c) k))), .int (nI (k + 1)), v] [] h) 3 _ ?_ ?_ 0 jx_j (by decide)
  · intro v
    show jx_E 34 12 _ _ _ = _
    rw [b_34_12, if_pos (by decide)]
    rfl
  · intro k v hk
    have b1 := mm_wt_b o (A i) c (k + 1)
    have b2 := mm_wt_b o (A i) c (mm_bt (mm_wt o (A i) c) k)
    refine ⟨.int (zI (mm_wt o (A i) c (k + 1))), ?_⟩
    show jx_E 34 12 _ _ _ = jx_E 34 12 [.ref q, .ref (bd_f a i), .int (nI (mm_bt (mm_wt o (A i) c) (k + 1))), .int (zI (mm_wt o (A i) c (mm_bt (mm_wt o (A i) c) (k + 1)))), .int (nI (k + 1 + 1)), .int (zI (mm_wt o (A i) c (k + 1)))] [] h
    rw [b_34_12, if_neg (show ¬ (3 : Int32) < nI (k + 1) from nI_nlt (b := k + 1) (a := 3) (by omega) (by decide)), gs_is G, jx_cI_e (m_33 H G L hi (t := k + 1) (by omega)), nI_1]
    show _ = jx_E 34 12 [.ref q, .ref (bd_f a i), .int (nI (if mm_wt o (A i) c (mm_bt (mm_wt o (A i) c) k) < mm_wt o (A i) c (k + 1) then k + 1 else mm_bt (mm_wt o (A i) c) k)), .int (zI (mm_wt o (A i) c (if mm_wt o (A i) c (mm_bt (mm_wt o (A i) c) k) < mm_wt o (A i) c (k + 1) then k + 1 else mm_bt (mm_wt o (A i) c) k))), .int (nI (k + 1 + 1)), .int (zI (mm_wt o (A i) c (k + 1)))] [] h
    by_cases c1 : mm_wt o (A i) c (mm_bt (mm_wt o (A i) c) k) < mm_wt o (A i) c (k + 1)
    · rw [if_neg (fun z => by have := (zI_le (by omega) (by omega) (by omega) (by omega)).mp z; omega), if_pos c1]
    · rw [if_pos ((zI_le (by omega) (by omega) (by omega) (by omega)).mpr (by omega)), if_neg c1]
theorem m_246 {x y : Int} (h1 : -1000000 ≤ x) (h2 : x ≤ 1000000) (h3 : -1000000 ≤ y) (h4 : y ≤ 1000000) (h : jx_H) : jx_A 246 [.int (zI x), .int (zI y)] h = some (.inl (some (.int (zI (if x < y then y else x)))), h) := by
  rw [a_246]
  by_cases c : x < y
  · rw [if_pos ((zI_lt h1 h2 h3 h4).mpr c), if_pos c]
  · rw [if_neg (fun z => c ((zI_lt h1 h2 h3 h4).mp z)), if_neg c]
theorem m_35 (H : bd_I h a n nx p A g) (G : gs_I h q wa co wt gp) {o : Nat → Option fg_T} {c i : Nat} (L : gs_L o c wa co) (hi : i < 20) : jx_A 35 [.ref q, .ref (bd_f a i)] h = some (.inl (some (.int (zI (mm_tw o (A i) c)))), h) := by
  rw [a_35, gs_is G, jx_cI_e (show jx_A 33 [.ref q, .ref (bd_f a i), .int 0] h = _ from m_33 H G L hi (t := 0) (by decide))]
  refine mz_lp (fun k => jx_E 35 9 [.ref q, .ref (bd_f a i), .int (zI (mm_wt o (A i) c (mm_bt (mm_wt o (A i) c) k))), .int (nI (k + 1))] [] h) 3 _ ?_ ?_ 0 (by decide)
  · show jx_E 35 9 _ _ _ = _
    rw [b_35_9, if_pos (by decide)]
    rfl
  · intro k hk
    have b1 := mm_wt_b o (A i) c (k + 1)
    have b2 := mm_wt_b o (A i) c (mm_bt (mm_wt o (A i) c) k)
    show jx_E 35 9 _ _ _ = jx_E 35 9 [.ref q, .ref (bd_f a i), .int (zI (mm_wt o (A i) c (if mm_wt o (A i) c (mm_bt (mm_wt o (A i) c) k) < mm_wt o (A i) c (k + 1) then k + 1 else mm_bt (mm_wt o (A i) c) k))), .int (nI (k + 1 + 1))] [] h
    rw [b_35_9, if_neg (show ¬ (3 : Int32) < nI (k + 1) from nI_nlt (b := k + 1) (a := 3) (by omega) (by decide)), gs_is G, jx_cI_e (m_33 H G L hi (t := k + 1) (by omega)), nI_1, jx_cI_e (m_246 (by omega) (by omega) (by omega) (by omega) h)]
    by_cases c1 : mm_wt o (A i) c (mm_bt (mm_wt o (A i) c) k) < mm_wt o (A i) c (k + 1)
    · rw [if_pos c1, if_pos c1]
    · rw [if_neg c1, if_neg c1]
end GS
end JX
