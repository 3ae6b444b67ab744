/-! The other object's board: neighbours, meetings, pairs, gaps. -/
section JX
theorem mz_pat : ∀ s, s < 4 → ∀ t, t < 4 → ((nI s + 4) - nI t) - ((nI s + 4) - nI t) / 4 * 4 = nI ((s + 4 - t) % 4) := by decide +kernel
theorem mz_op4 : ∀ s, s < 4 → (nI s + 2) - (nI s + 2) / 4 * 4 = nI ((s + 2) % 4) := by decide +kernel
def zC (n : Nat) : Int32 := match n with | 0 => 0 | 1 => 1 | _ => -1
def zK (b : Bool) : Int32 := bif b then 1 else -1
theorem mm_ct_le (o : Nat → Option fg_T) (c s : Nat) : mm_ct o c s ≤ 2 := by
  unfold mm_ct
  split
  · decide
  · split
    · decide
    · rename_i f' _
      cases fg_fit _ s f' <;> decide
section RQ
variable {h : jx_H} {y : Nat} {fs : List Value} {S : Nat → Nat} {n nx : Nat} {p : Nat → Nat} {A : Nat → fg_T} {g : Nat → Option Nat}
theorem rq_o (c s : Nat) : (mz_bs c s).bind (bd_o A g) = ((mz_bs c s).bind g).map A := by cases mz_bs c s <;> rfl
theorem rq_nb (J : rq_J h y fs S n nx p A g) {c s i : Nat} (hc : c < 64) (hs : s < 4) (e : (mz_bs c s).bind g = some i) : ∃ k, k < n ∧ i = p k := by
  cases z : mz_bs c s with
  | none => rw [z] at e; cases e
  | some d =>
    rw [z] at e
    obtain ⟨k, hk, q, -⟩ := rq_gs J (mz_bs64 hc hs z) e
    exact ⟨k, hk, q⟩
theorem m_152 (J : rq_J h y fs S n nx p A g) {c s : Nat} (hc : c < 64) (hs : s < 4) : jx_A 152 [.ref y, .int (nI c), .int (nI s)] h = some (.inl (some (.int (zO ((mz_bs c s).bind g)))), h) := by
  rw [a_152, jx_cI_e (m_151 hc hs h)]
  cases e : mz_bs c s with
  | none => rw [if_neg (show ¬ (0 : Int32) ≤ zO none by decide)]; rfl
  | some d =>
    have hd := mz_bs64 hc hs e
    rw [if_pos (show (0 : Int32) ≤ zO (some d) from nI_pos' (by omega)), rq_0 J, show zO (some d) = nI d from rfl, rq_c J hd]
    show _ = (some (.inl (some (.int (zO (g d)))), h) : jx_R)
    cases g d with
    | none => rfl
    | some i =>
      show (some (.inl (some (.int (nI (i + 1) - 1))), h) : jx_R) = _
      rw [nI_pred]; rfl
theorem m_153 (J : rq_J h y fs S n nx p A g) {k s t : Nat} (hk : k < n) (hs : s < 4) (ht : t < 4) : jx_A 153 [.ref y, .int (nI (p k)), .int (nI s), .int (nI t)] h = some (.inl (some (.int (nI (fg_ed (A (p k)) ((s + 4 - t) % 4))))), h) := by
  have lt : (s + 4 - t) % 4 < 4 := Nat.mod_lt _ (by decide)
  rw [a_153, rq_is J, mz_pat s hs t ht, show (2 : Int32) + nI ((s + 4 - t) % 4) = nI (2 + (s + 4 - t) % 4) from nI_add 2 _, jx_cI_e (m_140k J hk (w := 2 + (s + 4 - t) % 4) (by omega))]
  match (s + 4 - t) % 4, lt with
  | 0, _ => rfl
  | 1, _ => rfl
  | 2, _ => rfl
  | 3, _ => rfl
theorem m_140t (J : rq_J h y fs S n nx p A g) {k : Nat} (hk : k < n) : jx_A 140 [.ref y, .int (nI (p k)), .int 6] h = some (.inl (some (.int (nI (fg_tn (A (p k)))))), h) := m_140k J hk (w := 6) (by decide)
theorem m_140c (J : rq_J h y fs S n nx p A g) {k : Nat} (hk : k < n) : jx_A 140 [.ref y, .int (nI (p k)), .int 7] h = some (.inl (some (.int (nI (fg_ce (A (p k)))))), h) := m_140k J hk (w := 7) (by decide)
theorem m_140f (J : rq_J h y fs S n nx p A g) {k : Nat} (hk : k < n) : jx_A 140 [.ref y, .int (nI (p k)), .int 1] h = some (.inl (some (.int (nI (fg_co (A (p k)))))), h) := m_140k J hk (w := 1) (by decide)
theorem m_154 (J : rq_J h y fs S n nx p A g) {c s k : Nat} (hc : c < 64) (hs : s < 4) (hk : k < n) (e : (mz_bs c s).bind g = some (p k)) : jx_A 154 [.ref y, .int (nI c), .int (nI s)] h = some (.inl (some (.int (nI (fg_at (A (p k)) ((s + 2) % 4))))), h) := by
  have e2 := m_152 J hc hs
  rw [e] at e2
  rw [a_154, rq_is J, jx_cI_e e2, rq_is J, show zO (some (p k)) = nI (p k) from rfl, jx_cI_e (m_140t J hk), rq_is J, mz_op4 s hs, jx_cI_e (m_153 J hk (Nat.mod_lt _ (by decide)) (rq_ok J hk).2.2.2.1)]
  rfl
theorem m_155 (J : rq_J h y fs S n nx p A g) {c s : Nat} (hc : c < 64) (hs : s < 4) : jx_A 155 [.ref y, .int (nI c), .int (nI s)] h = some (.inl (some (.int (zC (mm_ct (bd_o A g) c s)))), h) := by
  have E : jx_A 155 [.ref y, .int (nI c), .int (nI s)] h = if (nI (rq_g (g c)) - 1) < 0 then (some (.inl (some (.int 0)), h)) else (jx_cI jx_A 152 [.ref y, .int (nI c), .int (nI s)] h (fun y4 h3 => if 0 ≤ y4 then (jx_is h3 y 8 (jx_cI jx_A 140 [.ref y, .int (nI (rq_g (g c)) - 1), .int 6] h3 (fun y6 h5 => jx_is h5 y 8 (jx_cI jx_A 153 [.ref y, .int (nI (rq_g (g c)) - 1), .int (nI s), .int y6] h5 (fun y8 h7 => jx_is h7 y 8 (jx_cI jx_A 154 [.ref y, .int (nI c), .int (nI s)] h7 (fun y10 h9 => if (y8 + y10) = 15 then (some (.inl (some (.int 1)), h9)) else (some (.inl (some (.int (-1))), h9))))))))) else (some (.inl (some (.int 0)), h3)))) := by
    rw [a_155, rq_0 J, rq_c J hc, rq_is J]
  rw [E]
  unfold mm_ct
  rw [rq_o]
  show _ = (some (.inl (some (.int (zC (match (g c).map A with | none => 0 | some f => match ((mz_bs c s).bind g).map A with | none => 0 | some f' => bif fg_fit f s f' then 1 else 2)))), h) : jx_R)
  cases e : g c with
  | none => rw [if_pos (show nI (rq_g none) - 1 < 0 by decide)]; rfl
  | some i =>
    obtain ⟨k, hk, rfl, -⟩ := rq_gs J hc e
    have hn := rq_n J
    have pk := rq_p J (show k < 20 by omega)
    have e1 : nI (rq_g (some (p k))) - 1 = nI (p k) := nI_pred _
    rw [e1, if_neg (nI_pos (by omega)), jx_cI_e (m_152 J hc hs)]
    cases e2 : (mz_bs c s).bind g with
    | none => rw [if_neg (show ¬ (0 : Int32) ≤ zO none by decide)]; rfl
    | some i' =>
      obtain ⟨k', hk', rfl⟩ := rq_nb J hc hs e2
      have pk' := rq_p J (show k' < 20 by omega)
      have t1 := fg_at_lt (rq_ok J hk) s
      have t2 := fg_at_lt (rq_ok J hk') ((s + 2) % 4)
      rw [if_pos (show (0 : Int32) ≤ zO (some (p k')) from nI_pos' (by omega)), rq_is J, jx_cI_e (m_140t J hk), rq_is J, jx_cI_e (m_153 J hk hs (rq_ok J hk).2.2.2.1), rq_is J, jx_cI_e (m_154 J hc hs hk' e2), nI_add]
      show (if nI (fg_at (A (p k)) s + fg_at (A (p k')) ((s + 2) % 4)) = nI 15 then _ else _) = (some (.inl (some (.int (zC (bif fg_fit (A (p k)) s (A (p k')) then 1 else 2)))), h) : jx_R)
      unfold fg_fit
      by_cases z : fg_at (A (p k)) s + fg_at (A (p k')) ((s + 2) % 4) = 15
      · rw [if_pos (by rw [z]), z]; rfl
      · rw [if_neg (fun q => z ((nI_eq (by omega) (by decide)).mp q)), show (fg_at (A (p k)) s + fg_at (A (p k')) ((s + 2) % 4) == 15) = false by simpa using z]; rfl
theorem zC_K (b : Bool) {k : Nat} (hk : k ≤ 2) : zC k = zK b ↔ k = bd_kd b := by
  match k, hk with
  | 0, _ => cases b <;> decide
  | 1, _ => cases b <;> decide
  | 2, _ => cases b <;> decide
theorem m_156 (J : rq_J h y fs S n nx p A g) {c : Nat} (hc : c < 64) (b : Bool) : jx_A 156 [.ref y, .int (nI c), .int (zK b)] h = some (.inl (some (.int (nI (mm_ms (bd_o A g) (bd_kd b) c)))), h) := by
  rw [a_156]
  refine mz_lp (fun i => jx_E 156 5 [.ref y, .int (nI c), .int (zK b), .int (nI (mz_su (fun s => (mm_ct (bd_o A g) c s == bd_kd b).toNat) i)), .int (nI i)] [] h) 4 _ ?_ ?_ 0 (by decide)
  · rw [b_156_5, if_pos (by decide)]; rfl
  · intro i hi
    show jx_E 156 5 _ _ _ = jx_E 156 5 [.ref y, .int (nI c), .int (zK b), .int (nI (mz_su (fun s => (mm_ct (bd_o A g) c s == bd_kd b).toNat) i + (mm_ct (bd_o A g) c i == bd_kd b).toNat)), .int (nI (i + 1))] [] h
    rw [b_156_5, if_neg (show ¬ 4 ≤ nI i from nI_ge (b := 4) hi (by decide)), rq_is J, jx_cI_e (m_155 J hc hi), nI_1, nI_1, Int32.add_zero]
    by_cases z : mm_ct (bd_o A g) c i = bd_kd b
    · rw [if_pos ((zC_K b (mm_ct_le _ _ _)).mpr z), z, show (bd_kd b == bd_kd b) = true by simp]; rfl
    · rw [if_neg (fun q => z ((zC_K b (mm_ct_le _ _ _)).mp q)), show (mm_ct (bd_o A g) c i == bd_kd b) = false by simpa using z]; rfl
theorem m_158 (J : rq_J h y fs S n nx p A g) {c : Nat} (hc : c < 64) : jx_A 158 [.ref y, .int (nI c)] h = some (.inl (some (.int (nI (mm_nc (bd_o A g) c)))), h) := by
  rw [a_158]
  refine mz_lp (fun i => jx_E 158 4 [.ref y, .int (nI c), .int (nI (mz_su (fun s => ((mz_bs c s).bind (bd_o A g)).isSome.toNat) i)), .int (nI i)] [] h) 4 _ ?_ ?_ 0 (by decide)
  · rw [b_158_4, if_pos (by decide)]; rfl
  · intro i hi
    show jx_E 158 4 _ _ _ = jx_E 158 4 [.ref y, .int (nI c), .int (nI (mz_su (fun s => ((mz_bs c s).bind (bd_o A g)).isSome.toNat) i + ((mz_bs c i).bind (bd_o A g)).isSome.toNat)), .int (nI (i + 1))] [] h
    rw [b_158_4, if_neg (show ¬ 4 ≤ nI i from nI_ge (b := 4) hi (by decide)), rq_is J, jx_cI_e (m_152 J hc hi), nI_1, nI_1, Int32.add_zero, rq_o]
    cases e : (mz_bs c i).bind g with
    | none => rw [if_pos (show zO none < 0 by decide)]; rfl
    | some j =>
      obtain ⟨k, hk, rfl⟩ := rq_nb J hc hi e
      have hn := rq_n J
      rw [if_neg (show ¬ zO (some (p k)) < 0 from nI_pos (by have := rq_p J (show k < 20 by omega); omega))]; rfl
theorem m_159 (J : rq_J h y fs S n nx p A g) {c : Nat} (hc : c < 64) : jx_A 159 [.ref y, .int (nI c)] h = some (.inl (some (.int (bI (mm_gap (bd_o A g) c)))), h) := by
  rw [a_159, rq_0 J, rq_c J hc]
  unfold mm_gap
  show _ = (some (.inl (some (.int (bI (((g c).map A).isNone && Nat.blt 0 (mm_nc (bd_o A g) c))))), h) : jx_R)
  cases e : g c with
  | none =>
    rw [if_pos (show nI (rq_g none) = 0 by decide), rq_is J, jx_cI_e (m_158 J hc)]
    have le := mm_nc_le (bd_o A g) c
    show (if nI (mm_nc (bd_o A g) c) ≤ 0 then _ else _) = (some (.inl (some (.int (bI (Nat.blt 0 (mm_nc (bd_o A g) c))))), h) : jx_R)
    by_cases z : mm_nc (bd_o A g) c = 0
    · rw [z, if_pos (by decide)]; rfl
    · rw [if_neg (nI_nle (by omega) (by omega)), show Nat.blt 0 (mm_nc (bd_o A g) c) = true from Nat.blt_eq.mpr (by omega)]; rfl
  | some i =>
    obtain ⟨k, hk, rfl, -⟩ := rq_gs J hc e
    have hn := rq_n J
    have pk := rq_p J (show k < 20 by omega)
    have e0 : ¬ nI (p k + 1) = 0 := nI_ne0 (Nat.succ_pos _) (by omega)
    rw [if_neg (show ¬ nI (rq_g (some (p k))) = 0 from e0)]; rfl
end RQ
-- sums over two numbers
theorem mz_su_pl (f g : Nat → Nat) : ∀ n, mz_su (fun k => f k + g k) n = mz_su f n + mz_su g n
  | 0 => rfl
  | n + 1 => by
    show mz_su (fun k => f k + g k) n + (f n + g n) = mz_su f n + f n + (mz_su g n + g n)
    rw [mz_su_pl f g n]; omega
theorem mz_su_z : ∀ n, mz_su (fun _ => 0) n = 0
  | 0 => rfl
  | n + 1 => by show mz_su (fun _ => 0) n + 0 = 0; rw [mz_su_z n]
theorem mz_su_swap (f : Nat → Nat → Nat) (m : Nat) : ∀ n, mz_su (fun k => mz_su (fun c => f k c) m) n = mz_su (fun c => mz_su (fun k => f k c) n) m
  | 0 => (mz_su_z m).symm
  | n + 1 => by
    show mz_su (fun k => mz_su (fun c => f k c) m) n + mz_su (fun c => f n c) m = mz_su (fun c => mz_su (fun k => f k c) n + f n c) m
    rw [mz_su_swap f m n]
    exact (mz_su_pl (fun c => mz_su (fun k => f k c) n) (fun c => f n c) m).symm
theorem mz_su_1 {f : Nat → Nat} {j : Nat} : ∀ n, j < n → (∀ k, k < n → k ≠ j → f k = 0) → mz_su f n = f j
  | n + 1, hj, h => by
    show mz_su f n + f n = _
    by_cases e : j = n
    · subst e
      rw [mz_su_cong (g := fun _ => 0) (fun i hi => h i (by omega) (by omega)), mz_su_z]; omega
    · rw [mz_su_1 n (by omega) (fun k hk => h k (by omega)), h n (Nat.lt_succ_self n) (fun q => e q.symm)]; rfl
/-- pairs to the right and below, counted at the fragments, are half of what is counted at the cells -/
theorem mm_ct_none {o : Nat → Option fg_T} {c s : Nat} (e : o c = none) : mm_ct o c s = 0 := by unfold mm_ct; rw [e]
theorem mm_ct_bs {o : Nat → Option fg_T} {c s : Nat} (e : mm_ct o c s ≠ 0) : ∃ d, mz_bs c s = some d := by
  cases z : mz_bs c s with
  | some d => exact ⟨d, rfl⟩
  | none =>
    exfalso
    apply e
    unfold mm_ct
    rw [z]
    cases o c <;> rfl
theorem mm_ct_flip (o : Nat → Option fg_T) {kd s : Nat} (h0 : kd ≠ 0) (hs : s < 4) : mz_su (fun c => (mm_ct o c s == kd).toNat) 64 = mz_su (fun c => (mm_ct o c ((s + 2) % 4) == kd).toNat) 64 := by
  have key : ∀ s, s < 4 → ∀ c, c < 64 → (mm_ct o c s == kd) = true → ∃ d, mz_bs c s = some d ∧ d < 64 ∧ (mm_ct o d ((s + 2) % 4) == kd) = true := fun s hs c hc e => by
    have e := beq_iff_eq.mp e
    obtain ⟨d, hd⟩ := mm_ct_bs (by rw [e]; exact h0 : mm_ct o c s ≠ 0)
    exact ⟨d, hd, mz_bs64 hc hs hd, by rw [mm_ct_sym hc hs hd, e]; exact beq_self_eq_true kd⟩
  have inj : ∀ s, s < 4 → ∀ c d, c < 64 → d < 64 → (mm_ct o c s == kd) = true → (mm_ct o d s == kd) = true → (mz_bs c s).getD 0 = (mz_bs d s).getD 0 → c = d := fun s hs c d hc hd e1 e2 e => by
    obtain ⟨c', a1, a2, a3⟩ := key s hs c hc e1
    obtain ⟨d', b1, b2, b3⟩ := key s hs d hd e2
    rw [a1, b1] at e
    have e : c' = d' := e
    subst e
    have u := mz_bs_opp hc hs a1
    have v := mz_bs_opp hd hs b1
    rw [u] at v
    exact Option.some.inj v
  have s2 : (s + 2) % 4 < 4 := Nat.mod_lt _ (by decide)
  have ss : ((s + 2) % 4 + 2) % 4 = s := by omega
  refine mz_bij (fun c => (mz_bs c s).getD 0) (fun c => (mz_bs c ((s + 2) % 4)).getD 0) (fun c hc e => ?_) (fun c d hc hd e1 e2 e => inj s hs c d hc hd e1 e2 e) (fun c hc e => ?_) (fun c d hc hd e1 e2 e => inj _ s2 c d hc hd e1 e2 e)
  · obtain ⟨d, a1, a2, a3⟩ := key s hs c hc e
    rw [a1]; exact ⟨a2, a3⟩
  · obtain ⟨d, a1, a2, a3⟩ := key _ s2 c hc e
    rw [ss] at a3
    rw [a1]; exact ⟨a2, a3⟩
theorem mm_ms_all (o : Nat → Option fg_T) {kd : Nat} (h0 : kd ≠ 0) : mz_su (fun c => mm_ms o kd c) 64 = 2 * mz_su (fun c => (mm_ct o c 1 == kd).toNat + (mm_ct o c 2 == kd).toNat) 64 := by
  have e : mz_su (fun c => mm_ms o kd c) 64 = mz_su (fun c => ((mm_ct o c 0 == kd).toNat + (mm_ct o c 1 == kd).toNat) + ((mm_ct o c 2 == kd).toNat + (mm_ct o c 3 == kd).toNat)) 64 := mz_su_cong fun c _ => by
    show 0 + (mm_ct o c 0 == kd).toNat + (mm_ct o c 1 == kd).toNat + (mm_ct o c 2 == kd).toNat + (mm_ct o c 3 == kd).toNat = _
    omega
  have f1 := mm_ct_flip o h0 (s := 0) (by decide)
  have f2 := mm_ct_flip o h0 (s := 1) (by decide)
  have f1 : mz_su (fun c => (mm_ct o c 0 == kd).toNat) 64 = mz_su (fun c => (mm_ct o c 2 == kd).toNat) 64 := f1
  have f2 : mz_su (fun c => (mm_ct o c 1 == kd).toNat) 64 = mz_su (fun c => (mm_ct o c 3 == kd).toNat) 64 := f2
  have a0 := mz_su_pl (fun c => (mm_ct o c 0 == kd).toNat + (mm_ct o c 1 == kd).toNat) (fun c => (mm_ct o c 2 == kd).toNat + (mm_ct o c 3 == kd).toNat) 64
  have a1 := mz_su_pl (fun c => (mm_ct o c 0 == kd).toNat) (fun c => (mm_ct o c 1 == kd).toNat) 64
  have a2 := mz_su_pl (fun c => (mm_ct o c 2 == kd).toNat) (fun c => (mm_ct o c 3 == kd).toNat) 64
  have a3 := mz_su_pl (fun c => (mm_ct o c 1 == kd).toNat) (fun c => (mm_ct o c 2 == kd).toNat) 64
  rw [e, a0, a1, a2, a3]
  omega
/-- every fragment on the grid has its cell -/
theorem mm_es_all {n : Nat} {p : Nat → Nat} {A : Nat → fg_T} {g : Nat → Option Nat} (W : bd_W n p A g) (hn : n ≤ 20) (hok : ∀ k, k < n → fg_ok (A (p k))) {kd : Nat} (h0 : kd ≠ 0) :
    mz_su (fun k => mm_es (bd_o A g) kd (A (p k))) n = mz_su (fun c => (mm_ct (bd_o A g) c 1 == kd).toNat + (mm_ct (bd_o A g) c 2 == kd).toNat) 64 := by
  have e1 : mz_su (fun k => mm_es (bd_o A g) kd (A (p k))) n = mz_su (fun k => mz_su (fun c => if fg_ce (A (p k)) = c + 1 then (mm_ct (bd_o A g) c 1 == kd).toNat + (mm_ct (bd_o A g) c 2 == kd).toNat else 0) 64) n := by
    refine mz_su_cong fun k hk => ?_
    have ce := (hok k hk).2.2.2.2
    unfold mm_es
    cases z : fg_ce (A (p k)) with
    | zero =>
      rw [mz_su_cong (g := fun _ => 0) (fun c _ => if_neg (by omega)), mz_su_z]
    | succ d =>
      rw [mz_su_1 (j := d) 64 (by omega) (fun c _ hc => if_neg (by omega)), if_pos rfl]
  rw [e1, mz_su_swap]
  refine mz_su_cong fun c hc => ?_
  cases e : g c with
  | none =>
    have oc : bd_o A g c = none := by unfold bd_o; rw [e]; rfl
    rw [mm_ct_none oc, mm_ct_none oc, show (0 == kd) = false by simpa using fun q => h0 q.symm]
    rw [mz_su_cong (g := fun _ => 0) (fun k _ => by split <;> rfl), mz_su_z]; rfl
  | some i =>
    obtain ⟨w1, k, hk, rfl⟩ := W.2.1 c i hc e
    rw [mz_su_1 (j := k) n hk (fun j hj ne => if_neg (fun q => ne (W.1 j k (by omega) (by omega) (by
      have := W.2.2 j c hj q
      rw [e] at this
      exact (Option.some.inj this).symm)))), if_pos w1]
section RQ
variable {h : jx_H} {y : Nat} {fs : List Value} {S : Nat → Nat} {n nx : Nat} {p : Nat → Nat} {A : Nat → fg_T} {g : Nat → Option Nat}
theorem mz_half : ∀ x, x < 200 → nI (2 * x) / 2 = nI x := by decide +kernel
theorem m_157 (J : rq_J h y fs S n nx p A g) (b : Bool) : jx_A 157 [.ref y, .int (zK b)] h = some (.inl (some (.int (nI (mz_su (fun k => mm_es (bd_o A g) (bd_kd b) (A (p k))) n)))), h) := by
  have k0 : bd_kd b ≠ 0 := by cases b <;> decide
  have hn := rq_n J
  have es := mm_es_all (rq_W J) hn (fun k hk => rq_ok J hk) k0
  have al := mm_ms_all (bd_o A g) k0
  rw [← es] at al
  have le : mz_su (fun k => mm_es (bd_o A g) (bd_kd b) (A (p k))) n ≤ n * 2 := mz_su_le fun k _ => by
    unfold mm_es
    split
    · omega
    · rename_i c _
      cases (mm_ct (bd_o A g) c 1 == bd_kd b) <;> cases (mm_ct (bd_o A g) c 2 == bd_kd b) <;> decide
  rw [a_157]
  refine mz_lp (fun i => jx_E 157 4 [.ref y, .int (zK b), .int (nI (mz_su (fun c => mm_ms (bd_o A g) (bd_kd b) c) i)), .int (nI i)] [] h) 64 _ ?_ ?_ 0 (by decide)
  · rw [b_157_4, if_pos (by decide), al, mz_half _ (by omega)]
  · intro i hi
    show jx_E 157 4 _ _ _ = jx_E 157 4 [.ref y, .int (zK b), .int (nI (mz_su (fun c => mm_ms (bd_o A g) (bd_kd b) c) i + mm_ms (bd_o A g) (bd_kd b) i)), .int (nI (i + 1))] [] h
    rw [b_157_4, if_neg (show ¬ 64 ≤ nI i from nI_ge (b := 64) hi (by decide)), rq_is J, jx_cI_e (m_156 J hi b), nI_1, nI_add]
end RQ
end JX
