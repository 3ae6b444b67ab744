/-! Numbers of groups. -/
section JX
theorem mz_su_rm {Q : Nat → Bool} {c : Nat} : ∀ {m : Nat}, c < m → Q c = true → mz_su (fun d => (Q d && !(d == c)).toNat) m + 1 = mz_su (fun d => (Q d).toNat) m
  | 0, h, _ => absurd h (Nat.not_lt_zero _)
  | m + 1, h, e => by
    show mz_su (fun d => (Q d && !(d == c)).toNat) m + (Q m && !(m == c)).toNat + 1 = mz_su (fun d => (Q d).toNat) m + (Q m).toNat
    by_cases z : c = m
    · subst z
      rw [e, beq_self_eq_true, mz_su_cong (g := fun d => (Q d).toNat) (fun i hi => by rw [beq_eq_false_iff_ne.mpr (show i ≠ c by omega), Bool.not_false, Bool.and_true])]
      rfl
    · have := mz_su_rm (m := m) (by omega) e
      rw [beq_eq_false_iff_ne.mpr (show m ≠ c from fun q => z q.symm), Bool.not_false, Bool.and_true]
      omega
/-- a count isn't greater than another one into which it goes -/
theorem mz_inj_le {P : Nat → Bool} (f : Nat → Nat) : ∀ {n m : Nat} {Q : Nat → Bool}, (∀ k, k < n → P k = true → f k < m ∧ Q (f k) = true) → (∀ k j, k < n → j < n → P k = true → P j = true → f k = f j → k = j) → mz_su (fun k => (P k).toNat) n ≤ mz_su (fun c => (Q c).toNat) m
  | 0, _, _, _, _ => Nat.zero_le _
  | n + 1, m, Q, h1, h2 => by
    show mz_su (fun k => (P k).toNat) n + (P n).toNat ≤ _
    cases e : P n with
    | false => exact mz_inj_le f (fun k hk => h1 k (by omega)) (fun k j hk hj => h2 k j (by omega) (by omega))
    | true =>
      obtain ⟨a, b⟩ := h1 n (by omega) e
      have := mz_inj_le f (n := n) (m := m) (Q := fun d => Q d && !(d == f n)) (fun k hk hp => by
        obtain ⟨c, d⟩ := h1 k (by omega) hp
        refine ⟨c, ?_⟩
        rw [d, beq_eq_false_iff_ne.mpr (fun q => by have := h2 k n (by omega) (by omega) hp e q; omega)]; rfl) (fun k j hk hj => h2 k j (by omega) (by omega))
      have := mz_su_rm a b
      show _ + 1 ≤ _
      omega
theorem mz_bij {P Q : Nat → Bool} (f g : Nat → Nat) {n m : Nat} (h1 : ∀ k, k < n → P k = true → f k < m ∧ Q (f k) = true) (h2 : ∀ k j, k < n → j < n → P k = true → P j = true → f k = f j → k = j) (h3 : ∀ k, k < m → Q k = true → g k < n ∧ P (g k) = true) (h4 : ∀ k j, k < m → j < m → Q k = true → Q j = true → g k = g j → k = j) : mz_su (fun k => (P k).toNat) n = mz_su (fun c => (Q c).toNat) m :=
  Nat.le_antisymm (mz_inj_le f h1 h2) (mz_inj_le g h3 h4)
theorem mz_least {P : Nat → Prop} : ∀ n, P n → ∃ m, P m ∧ m ≤ n ∧ ∀ j, j < m → ¬ P j := by
  intro n
  induction n using Nat.strongRecOn with
  | _ n ih =>
    intro h
    by_cases z : ∃ j, j < n ∧ P j
    · obtain ⟨j, hj, hp⟩ := z
      obtain ⟨m, a, b, c⟩ := ih j hj hp
      exact ⟨m, a, by omega, c⟩
    · exact ⟨n, h, Nat.le_refl _, fun j hj hp => z ⟨j, hj, hp⟩⟩
theorem mz_bs_opp1 : ∀ c, c < 64 → ∀ s, s < 4 → (match mz_bs c s with | some d => mz_bs d ((s + 2) % 4) == some c | none => true) = true := by decide +kernel
theorem mz_bs_opp {c s d : Nat} (hc : c < 64) (hs : s < 4) (e : mz_bs c s = some d) : mz_bs d ((s + 2) % 4) = some c := by
  have := mz_bs_opp1 c hc s hs
  rw [e] at this
  exact beq_iff_eq.mp this
theorem fg_fit_sym {f f' : fg_T} {s : Nat} (hs : s < 4) : fg_fit f' ((s + 2) % 4) f = fg_fit f s f' := by
  unfold fg_fit
  rw [show ((s + 2) % 4 + 2) % 4 = s by omega, Nat.add_comm]
/-- what meets at a side meets from the other side too -/
theorem mm_ct_sym {o : Nat → Option fg_T} {c s d : Nat} (hc : c < 64) (hs : s < 4) (e : mz_bs c s = some d) : mm_ct o d ((s + 2) % 4) = mm_ct o c s := by
  have e2 := mz_bs_opp hc hs e
  unfold mm_ct
  rw [e, e2]
  show (match o d with | none => 0 | some f => match o c with | none => 0 | some f' => bif fg_fit f ((s + 2) % 4) f' then 1 else 2) = (match o c with | none => 0 | some f => match o d with | none => 0 | some f' => bif fg_fit f s f' then 1 else 2)
  cases o c with
  | none => cases o d <;> rfl
  | some f =>
    cases o d with
    | none => rfl
    | some f' => show (bif fg_fit f' ((s + 2) % 4) f then 1 else 2) = (bif fg_fit f s f' then 1 else 2); rw [fg_fit_sym hs]
theorem mm_re_t {o : Nat → Option fg_T} {a b c : Nat} (h : mm_re o a b) (h2 : mm_re o b c) : mm_re o a c := fun S h3 h4 => h2 S (h S h3 h4) h4
theorem mm_re_sym {o : Nat → Option fg_T} {a b : Nat} (h : mm_re o a b) : mm_re o b a := by
  refine h (fun c => mm_re o c a) mm_re_0 (fun d t d' hd ht q e e2 => ?_)
  exact mm_re_t (mm_re_s mm_re_0 (mz_bs64 hd ht e2) (by omega) ((mm_ct_sym hd ht e2).trans e) (mz_bs_opp hd ht e2)) q
theorem mm_re_64 {o : Nat → Option fg_T} {a b : Nat} (ha : a < 64) (h : mm_re o a b) : b < 64 := h (fun c => c < 64) ha (fun d t d' hd ht _ _ e => mz_bs64 hd ht e)
theorem mm_re_oc {o : Nat → Option fg_T} {a b : Nat} (ha : (o a).isSome = true) (h : mm_re o a b) : (o b).isSome = true := by
  refine h (fun c => (o c).isSome = true) ha (fun d t d' hd ht q e e2 => ?_)
  obtain ⟨f, d2, f', b1, b2, b3⟩ := mm_ct_nb (o := o) (c := d) (s := t) (by rw [e]; decide)
  rw [e2] at b2
  cases b2
  rw [b3]; rfl
noncomputable def mz_dc (P : Prop) : Bool := @decide P (Classical.propDecidable P)
theorem mz_dc_iff {P : Prop} : mz_dc P = true ↔ P := @decide_eq_true_iff P (Classical.propDecidable P)
theorem mz_dc_f {P : Prop} : mz_dc P = false ↔ ¬ P := @decide_eq_false_iff_not P (Classical.propDecidable P)
/-- the first cell of a group -/
noncomputable def mm_fs (o : Nat → Option fg_T) (c : Nat) : Bool := (o c).isSome && mz_dc (∀ d, d < c → mm_re o d c → (o d).isSome = false)
noncomputable def mm_gc (o : Nat → Option fg_T) : Nat := mz_su (fun c => (mm_fs o c).toNat) 64
def mm_cl (f : fg_T) : Nat := fg_ce f - 1
/-- the first fragment of a group -/
noncomputable def mm_ff (F : Nat → fg_T) (o : Nat → Option fg_T) (k : Nat) : Bool := fg_on (F k) && mz_dc (∀ j, j < k → fg_on (F j) = true → ¬ mm_re o (mm_cl (F j)) (mm_cl (F k)))
/-- each fragment that is placed has its cell, each cell its fragment -/
def mm_C (M : mm_T) : Prop := (∀ k, k < M.1 → fg_on (M.2.2.1 k) = true → mm_cl (M.2.2.1 k) < 64 ∧ M.2.2.2 (mm_cl (M.2.2.1 k)) = some (M.2.2.1 k)) ∧ (∀ c f, c < 64 → M.2.2.2 c = some f → ∃ k, k < M.1 ∧ M.2.2.1 k = f ∧ fg_on f = true ∧ mm_cl f = c) ∧ (∀ j k, j < M.1 → k < M.1 → fg_on (M.2.2.1 j) = true → fg_on (M.2.2.1 k) = true → mm_cl (M.2.2.1 j) = mm_cl (M.2.2.1 k) → j = k)
theorem bd_R_C {h : jx_H} {a : Nat} {M : mm_T} (R : bd_R h a M) : mm_C M := by
  obtain ⟨p, A, g, H, W, hF, ho⟩ := R
  have hn := bd_n20 H
  have one : ∀ k, k < M.1 → fg_on (M.2.2.1 k) = true → mm_cl (M.2.2.1 k) < 64 ∧ g (mm_cl (M.2.2.1 k)) = some (p k) := fun k hk e => by
    have e1 := fg_on_1.mp e
    have l := (bd_ok H (bd_p H hk)).2.2.2.2
    rw [hF k hk] at l
    refine ⟨by unfold mm_cl; omega, W.2.2 k _ hk ?_⟩
    rw [hF k hk]; unfold mm_cl; omega
  refine ⟨fun k hk e => ?_, fun c f hc e => ?_, fun j k hj hk e1 e2 e3 => ?_⟩
  · obtain ⟨a1, a2⟩ := one k hk e
    refine ⟨a1, ?_⟩
    rw [← ho _ a1]
    unfold bd_o
    rw [a2, ← hF k hk]; rfl
  · rw [← ho c hc] at e
    unfold bd_o at e
    cases eg : g c with
    | none => rw [eg] at e; cases e
    | some i =>
      rw [eg] at e
      obtain ⟨w1, k, hk, rfl⟩ := W.2.1 c i hc eg
      have e' : A (p k) = f := Option.some.inj e
      subst e'
      exact ⟨k, hk, (hF k hk).symm, fg_on_1.mpr (by omega), by unfold mm_cl; omega⟩
  · obtain ⟨_, a2⟩ := one j hj e1
    obtain ⟨_, b2⟩ := one k hk e2
    rw [e3, b2] at a2
    exact W.1 j k (by omega) (by omega) (Option.some.inj a2).symm
theorem mm_gc_ff {M : mm_T} (HC : mm_C M) : mz_su (fun k => (mm_ff M.2.2.1 M.2.2.2 k).toNat) M.1 = mm_gc M.2.2.2 := by
  have ffi : ∀ k, mm_ff M.2.2.1 M.2.2.2 k = true ↔ fg_on (M.2.2.1 k) = true ∧ ∀ j, j < k → fg_on (M.2.2.1 j) = true → ¬ mm_re M.2.2.2 (mm_cl (M.2.2.1 j)) (mm_cl (M.2.2.1 k)) := fun k => by unfold mm_ff; rw [Bool.and_eq_true, mz_dc_iff]
  have fsi : ∀ c, mm_fs M.2.2.2 c = true ↔ (M.2.2.2 c).isSome = true ∧ ∀ d, d < c → mm_re M.2.2.2 d c → (M.2.2.2 d).isSome = false := fun c => by unfold mm_fs; rw [Bool.and_eq_true, mz_dc_iff]
  have ef : ∀ k, ∃ c, k < M.1 → fg_on (M.2.2.1 k) = true → mm_re M.2.2.2 (mm_cl (M.2.2.1 k)) c ∧ ∀ d, d < c → ¬ mm_re M.2.2.2 (mm_cl (M.2.2.1 k)) d := fun k => by
    obtain ⟨c, a, _, b⟩ := mz_least (P := fun c => mm_re M.2.2.2 (mm_cl (M.2.2.1 k)) c) _ mm_re_0
    exact ⟨c, fun _ _ => ⟨a, b⟩⟩
  have eg : ∀ c, ∃ k, c < 64 → (M.2.2.2 c).isSome = true → (k < M.1 ∧ fg_on (M.2.2.1 k) = true ∧ mm_re M.2.2.2 c (mm_cl (M.2.2.1 k))) ∧ ∀ j, j < k → ¬ (j < M.1 ∧ fg_on (M.2.2.1 j) = true ∧ mm_re M.2.2.2 c (mm_cl (M.2.2.1 j))) := fun c => by
    by_cases hc : c < 64 ∧ (M.2.2.2 c).isSome = true
    · obtain ⟨f, e⟩ := Option.isSome_iff_exists.mp hc.2
      obtain ⟨k, a1, a2, a3, a4⟩ := HC.2.1 c f hc.1 e
      obtain ⟨m, b1, _, b3⟩ := mz_least (P := fun k => k < M.1 ∧ fg_on (M.2.2.1 k) = true ∧ mm_re M.2.2.2 c (mm_cl (M.2.2.1 k))) k ⟨a1, by rw [a2]; exact a3, by rw [a2, a4]; exact mm_re_0⟩
      exact ⟨m, fun _ _ => ⟨b1, b3⟩⟩
    · exact ⟨0, fun h1 h2 => absurd ⟨h1, h2⟩ hc⟩
  refine mz_bij (fun k => Classical.choose (ef k)) (fun c => Classical.choose (eg c)) (fun k hk e => ?_) (fun k j hk hj e1 e2 q => ?_) (fun c hc e => ?_) (fun c d hc hd e1 e2 q => ?_)
  · obtain ⟨e1, e2⟩ := (ffi k).mp e
    obtain ⟨a, b⟩ := Classical.choose_spec (ef k) hk e1
    obtain ⟨c1, c2⟩ := HC.1 k hk e1
    refine ⟨mm_re_64 c1 a, (fsi _).mpr ⟨mm_re_oc (by rw [c2]; rfl) a, fun d hd r => ?_⟩⟩
    exact absurd (mm_re_t a (mm_re_sym r)) (b d hd)
  · obtain ⟨a1, a2⟩ := (ffi k).mp e1
    obtain ⟨b1, b2⟩ := (ffi j).mp e2
    have r1 := (Classical.choose_spec (ef k) hk a1).1
    have r2 := (Classical.choose_spec (ef j) hj b1).1
    have q' : Classical.choose (ef k) = Classical.choose (ef j) := q
    rw [q'] at r1
    have r := mm_re_t r1 (mm_re_sym r2)
    by_cases z : k < j
    · exact absurd r (b2 k z a1)
    · by_cases z2 : j < k
      · exact absurd (mm_re_sym r) (a2 j z2 b1)
      · omega
  · obtain ⟨e1, e2⟩ := (fsi c).mp e
    obtain ⟨⟨a1, a2, a3⟩, b⟩ := Classical.choose_spec (eg c) hc e1
    exact ⟨a1, (ffi _).mpr ⟨a2, fun j hj oj r => b j hj ⟨by omega, oj, mm_re_t a3 (mm_re_sym r)⟩⟩⟩
  · obtain ⟨a1, a2⟩ := (fsi c).mp e1
    obtain ⟨b1, b2⟩ := (fsi d).mp e2
    have r1 := (Classical.choose_spec (eg c) hc a1).1.2.2
    have r2 := (Classical.choose_spec (eg d) hd b1).1.2.2
    have q' : Classical.choose (eg c) = Classical.choose (eg d) := q
    rw [q'] at r1
    have r := mm_re_t r1 (mm_re_sym r2)
    by_cases z : c < d
    · have := b2 c z r
      rw [a1] at this; cases this
    · by_cases z2 : d < c
      · have := a2 d z2 (mm_re_sym r)
        rw [b1] at this; cases this
      · omega
/-- the size of a cell's group, and of the largest one -/
noncomputable def mm_gz (o : Nat → Option fg_T) (c : Nat) : Nat := mz_su (fun d => (mm_gb o c d).toNat) 64
def mm_lg (o : Nat → Option fg_T) (v : Nat) : Prop := (∀ c, c < 64 → (o c).isSome = true → mm_gz o c ≤ v) ∧ (v = 0 ∨ ∃ c, c < 64 ∧ (o c).isSome = true ∧ v = mm_gz o c)
theorem mm_lg_1 {o : Nat → Option fg_T} {v w : Nat} (h : mm_lg o v) (h2 : mm_lg o w) : v = w := by
  obtain ⟨a, b⟩ := h
  obtain ⟨c, d⟩ := h2
  have l1 : v ≤ w := by
    rcases b with rfl | ⟨x, x1, x2, rfl⟩
    · omega
    · exact c x x1 x2
  have l2 : w ≤ v := by
    rcases d with rfl | ⟨x, x1, x2, rfl⟩
    · omega
    · exact a x x1 x2
  omega
theorem mm_gz_1 {o : Nat → Option fg_T} {c : Nat} (hc : c < 64) : 1 ≤ mm_gz o c ∧ mm_gz o c ≤ 64 := by
  unfold mm_gz
  have := mz_su_rm (Q := mm_gb o c) hc (mm_gb_iff.mpr mm_re_0)
  have := mz_su_le (f := fun d => (mm_gb o c d).toNat) (b := 1) (n := 64) (fun i _ => Bool.toNat_le _)
  omega
section GU
variable {xs : List Int32} {h : jx_H} {a r : Nat} {M : mm_T}
theorem m_25R (K : mz_K xs h) (R : bd_R h a M) {p : Nat → Nat} {A : Nat → fg_T} {g : Nat → Option Nat} (H : bd_I h a M.1 M.2.1 p A g) (W : bd_W M.1 p A g) (hF : ∀ k, k < M.1 → A (p k) = M.2.2.1 k) (ho : ∀ c, c < 64 → bd_o A g c = M.2.2.2 c) (G : gu_V h r) (hd : a + 43 ≤ r ∨ r + 3 ≤ a) {k : Nat} (hk : k < M.1) (e : fg_on (M.2.2.1 k) = true) : ∃ h', jx_A 25 [.ref r, .ref a, .ref (bd_f a (p k))] h = some (.inl (some (.long (mm_gk M.2.2.2 (mm_cl (M.2.2.1 k))))), h') ∧ gu_V h' r ∧ mz_eq r (r + 3) h h' := by
  have c1 := ((bd_R_C R).1 k hk e).1
  have e1 := fg_on_1.mp e
  have := m_25 K H W G hd c1 (W.2.2 k _ hk (by rw [hF k hk]; unfold mm_cl; omega))
  rw [mm_gk_cong ho] at this
  exact this
theorem m_26 (K : mz_K xs h) (R : bd_R h a M) (G : gu_V h r) (hd : a + 43 ≤ r ∨ r + 3 ≤ a) : ∃ h', jx_A 26 [.ref r, .ref a] h = some (.inl (some (.int (nI (mm_gc M.2.2.2)))), h') ∧ gu_V h' r ∧ mz_eq r (r + 3) h h' := by
  have HC := bd_R_C R
  obtain ⟨p, A, g, H, W, hF, ho⟩ := id R
  have hn := bd_n20 H
  have nr : jx_nc ≤ r := by obtain ⟨_, _, G⟩ := G; exact G.2.2.2
  rw [a_26]
  refine mz_inv (γ := jx_H × Int64 × Value) (fun i z => jx_E 26 8 [.ref r, .ref a, .long z.2.1, jx_j, .int (nI (mz_su (fun k => (mm_ff M.2.2.1 M.2.2.2 k).toNat) i)), .int (nI i), z.2.2] [] z.1)
    (fun i z => gu_V z.1 r ∧ mz_eq r (r + 3) h z.1 ∧ ∀ c, c < 64 → (mb z.2.1 c = true ↔ ∃ j, j < i ∧ fg_on (M.2.2.1 j) = true ∧ mm_re M.2.2.2 (mm_cl (M.2.2.1 j)) c)) M.1
    (fun X => ∃ h', X = some (.inl (some (.int (nI (mm_gc M.2.2.2)))), h') ∧ gu_V h' r ∧ mz_eq r (r + 3) h h') ?_ ?_ 0 (h, 0, jx_j) (Nat.zero_le _) ⟨G, mz_eq_rf, fun c hc => by
      show mb 0 c = true ↔ _
      rw [mb_0]
      exact ⟨fun q => (by cases q), fun ⟨j, hj, _⟩ => absurd hj (Nat.not_lt_zero _)⟩⟩
  · rintro ⟨u, m, v⟩ ⟨Gu, tu, hm⟩
    refine ⟨u, ?_, Gu, tu⟩
    show jx_E 26 8 _ _ _ = _
    rw [b_26_8, bd_n (bd_eq H tu hd), if_pos (nI_le (Nat.le_refl _) (by omega)), mm_gc_ff HC]
  · rintro i ⟨u, m, v⟩ hi ⟨Gu, tu, hm⟩
    dsimp only at Gu tu hm
    have Hu := bd_eq H tu hd
    have Ku := mz_K_eq K tu nr
    have Ru : bd_R u a M := ⟨p, A, g, Hu, W, hF, ho⟩
    have hp := bd_p H hi
    refine Or.inr ?_
    show ∃ g' : jx_H × Int64 × Value, (gu_V g'.1 r ∧ mz_eq r (r + 3) h g'.1 ∧ ∀ c, c < 64 → (mb g'.2.1 c = true ↔ ∃ j, j < i + 1 ∧ fg_on (M.2.2.1 j) = true ∧ mm_re M.2.2.2 (mm_cl (M.2.2.1 j)) c)) ∧ jx_E 26 8 [.ref r, .ref a, .long m, jx_j, .int (nI (mz_su (fun k => (mm_ff M.2.2.1 M.2.2.2 k).toNat) i)), .int (nI i), v] [] u = jx_E 26 8 [.ref r, .ref a, .long g'.2.1, jx_j, .int (nI (mz_su (fun k => (mm_ff M.2.2.1 M.2.2.2 k).toNat) i + (mm_ff M.2.2.1 M.2.2.2 i).toNat)), .int (nI (i + 1)), g'.2.2] [] g'.1
    have ext : ∀ c, (∃ j, j < i + 1 ∧ fg_on (M.2.2.1 j) = true ∧ mm_re M.2.2.2 (mm_cl (M.2.2.1 j)) c) ↔ (∃ j, j < i ∧ fg_on (M.2.2.1 j) = true ∧ mm_re M.2.2.2 (mm_cl (M.2.2.1 j)) c) ∨ (fg_on (M.2.2.1 i) = true ∧ mm_re M.2.2.2 (mm_cl (M.2.2.1 i)) c) := fun c => by
      constructor
      · rintro ⟨j, hj, a1, a2⟩
        by_cases z : j = i
        · subst z; exact Or.inr ⟨a1, a2⟩
        · exact Or.inl ⟨j, by omega, a1, a2⟩
      · rintro (⟨j, hj, a1, a2⟩ | ⟨a1, a2⟩)
        · exact ⟨j, by omega, a1, a2⟩
        · exact ⟨i, by omega, a1, a2⟩
    cases eo : fg_on (M.2.2.1 i) with
    | false =>
      refine ⟨(u, m, .ref (bd_f a (p i))), ⟨Gu, tu, fun c hc => ?_⟩, ?_⟩
      · show mb m c = true ↔ _
        rw [ext, hm c hc, eo]
        exact ⟨Or.inl, fun q => q.elim id (fun z => by cases z.1)⟩
      · have : mm_ff M.2.2.1 M.2.2.2 i = false := by unfold mm_ff; rw [eo]; rfl
        rw [b_26_8, bd_n Hu, if_neg (nI_ge hi (by omega)), bd_fr Hu, bd_at Hu (by omega), bd_fis Hu hp, jx_cI_e (m_21 Hu hp), hF i hi, eo, if_pos (by decide), nI_1, this]
        rfl
    | true =>
      obtain ⟨c1, c2⟩ := HC.1 i hi eo
      have ce : nI (fg_ce (A (p i))) - 1 = nI (mm_cl (M.2.2.1 i)) := by
        rw [hF i hi]
        have := fg_on_1.mp eo
        unfold mm_cl
        obtain ⟨c, hc⟩ : ∃ c, fg_ce (M.2.2.1 i) = c + 1 := ⟨fg_ce (M.2.2.1 i) - 1, by omega⟩
        rw [hc, mz_pred]; rfl
      have E0 : jx_E 26 8 [.ref r, .ref a, .long m, jx_j, .int (nI (mz_su (fun k => (mm_ff M.2.2.1 M.2.2.2 k).toNat) i)), .int (nI i), v] [] u = if mb m (mm_cl (M.2.2.1 i)) = false then jx_cL jx_A 25 [.ref r, .ref a, .ref (bd_f a (p i))] u (fun y12 h11 => jx_E 26 8 [.ref r, .ref a, .long (m ||| y12), jx_j, .int (nI (mz_su (fun k => (mm_ff M.2.2.1 M.2.2.2 k).toNat) i + 1)), .int (nI (i + 1)), .ref (bd_f a (p i))] [] h11) else jx_E 26 8 [.ref r, .ref a, .long m, jx_j, .int (nI (mz_su (fun k => (mm_ff M.2.2.1 M.2.2.2 k).toNat) i)), .int (nI (i + 1)), .ref (bd_f a (p i))] [] u := by
        have his : ∀ F, jx_is u r 3 F = F := fun F => by obtain ⟨_, _, Gu⟩ := Gu; exact gu_is Gu F
        rw [b_26_8, bd_n Hu, if_neg (nI_ge hi (by omega)), bd_fr Hu, bd_at Hu (by omega), bd_fis Hu hp, jx_cI_e (m_21 Hu hp), hF i hi, eo, if_neg (by decide), bd_fce Hu hp, ce, jx_cL_e (m_129 _ u), his]
        simp only [nI_1]
        by_cases z : mb m (mm_cl (M.2.2.1 i)) = false
        · rw [if_pos ((lg_bit c1).mpr z), if_pos z]
        · rw [if_neg (fun q => z ((lg_bit c1).mp q)), if_neg z]
      rw [E0]
      by_cases z : mb m (mm_cl (M.2.2.1 i)) = false
      · obtain ⟨u2, x2, G2, s2⟩ := m_25R Ku Ru Hu W hF ho Gu hd hi eo
        refine ⟨(u2, m ||| mm_gk M.2.2.2 (mm_cl (M.2.2.1 i)), .ref (bd_f a (p i))), ⟨G2, mz_eq_tr tu s2, fun c hc => ?_⟩, ?_⟩
        · show mb (m ||| mm_gk M.2.2.2 (mm_cl (M.2.2.1 i))) c = true ↔ _
          rw [ext, mb_or, Bool.or_eq_true, hm c hc]
          unfold mm_gk
          rw [mb_mk _ hc, mm_gb_iff, eo]
          exact ⟨fun q => q.elim Or.inl (fun w => Or.inr ⟨rfl, w⟩), fun q => q.elim Or.inl (fun w => Or.inr w.2)⟩
        · have : mm_ff M.2.2.1 M.2.2.2 i = true := by
            unfold mm_ff
            rw [eo, Bool.true_and, mz_dc_iff]
            intro j hj oj rr
            rw [(hm _ c1).mpr ⟨j, hj, oj, rr⟩] at z
            cases z
          rw [if_pos z, jx_cL_e x2, this]
          rfl
      · refine ⟨(u, m, .ref (bd_f a (p i))), ⟨Gu, tu, fun c hc => ?_⟩, ?_⟩
        · show mb m c = true ↔ _
          rw [ext, hm c hc]
          refine ⟨Or.inl, fun q => q.elim id (fun w => ?_)⟩
          have z' : mb m (mm_cl (M.2.2.1 i)) = true := by cases y : mb m (mm_cl (M.2.2.1 i)) with | true => rfl | false => exact absurd y z
          obtain ⟨j, hj, oj, rr⟩ := (hm _ c1).mp z'
          exact ⟨j, hj, oj, mm_re_t rr w.2⟩
        · have : mm_ff M.2.2.1 M.2.2.2 i = false := by
            unfold mm_ff
            rw [eo, Bool.true_and, mz_dc_f]
            intro q
            have z' : mb m (mm_cl (M.2.2.1 i)) = true := by cases y : mb m (mm_cl (M.2.2.1 i)) with | true => rfl | false => exact absurd y z
            obtain ⟨j, hj, oj, rr⟩ := (hm _ c1).mp z'
            exact q j hj oj rr
          rw [if_neg z, this]
          rfl
theorem m_27 (K : mz_K xs h) (R : bd_R h a M) (G : gu_V h r) (hd : a + 43 ≤ r ∨ r + 3 ≤ a) : ∃ h' v, mm_lg M.2.2.2 v ∧ v ≤ 64 ∧ jx_A 27 [.ref r, .ref a] h = some (.inl (some (.int (nI v))), h') ∧ gu_V h' r ∧ mz_eq r (r + 3) h h' := by
  have HC := bd_R_C R
  obtain ⟨p, A, g, H, W, hF, ho⟩ := id R
  have hn := bd_n20 H
  have nr : jx_nc ≤ r := by obtain ⟨_, _, G⟩ := G; exact G.2.2.2
  rw [a_27]
  refine mz_inv (γ := jx_H × Nat × Value) (fun i z => jx_E 27 4 [.ref r, .ref a, .int (nI z.2.1), .int (nI i), z.2.2] [] z.1)
    (fun i z => gu_V z.1 r ∧ mz_eq r (r + 3) h z.1 ∧ z.2.1 ≤ 64 ∧ (∀ j, j < i → fg_on (M.2.2.1 j) = true → mm_gz M.2.2.2 (mm_cl (M.2.2.1 j)) ≤ z.2.1) ∧ (z.2.1 = 0 ∨ ∃ j, j < i ∧ fg_on (M.2.2.1 j) = true ∧ z.2.1 = mm_gz M.2.2.2 (mm_cl (M.2.2.1 j)))) M.1
    (fun X => ∃ h' v, mm_lg M.2.2.2 v ∧ v ≤ 64 ∧ X = some (.inl (some (.int (nI v))), h') ∧ gu_V h' r ∧ mz_eq r (r + 3) h h') ?_ ?_ 0 (h, 0, jx_j) (Nat.zero_le _) ⟨G, mz_eq_rf, Nat.zero_le _, fun j hj => absurd hj (Nat.not_lt_zero _), Or.inl rfl⟩
  · rintro ⟨u, w, v⟩ ⟨Gu, tu, q1, q2, q3⟩
    dsimp only at Gu tu q1 q2 q3
    refine ⟨u, w, ⟨fun c hc oc => ?_, ?_⟩, q1, ?_, Gu, tu⟩
    · obtain ⟨f, e⟩ := Option.isSome_iff_exists.mp oc
      obtain ⟨k, a1, a2, a3, a4⟩ := HC.2.1 c f hc e
      have := q2 k a1 (by rw [a2]; exact a3)
      rw [a2, a4] at this
      exact this
    · rcases q3 with q | ⟨j, hj, oj, e⟩
      · exact Or.inl q
      · obtain ⟨c1, c2⟩ := HC.1 j hj oj
        exact Or.inr ⟨_, c1, by rw [c2]; rfl, e⟩
    · show jx_E 27 4 _ _ _ = _
      rw [b_27_4, bd_n (bd_eq H tu hd), if_pos (nI_le (Nat.le_refl _) (by omega))]
  · rintro i ⟨u, w, v⟩ hi ⟨Gu, tu, q1, q2, q3⟩
    dsimp only at Gu tu q1 q2 q3
    have Hu := bd_eq H tu hd
    have Ku := mz_K_eq K tu nr
    have Ru : bd_R u a M := ⟨p, A, g, Hu, W, hF, ho⟩
    have hp := bd_p H hi
    refine Or.inr ?_
    cases eo : fg_on (M.2.2.1 i) with
    | false =>
      refine ⟨(u, w, .ref (bd_f a (p i))), ⟨Gu, tu, q1, fun j hj oj => ?_, ?_⟩, ?_⟩
      · by_cases z : j = i
        · subst z; rw [eo] at oj; cases oj
        · exact q2 j (by omega) oj
      · rcases q3 with q | ⟨j, hj, oj, e⟩
        · exact Or.inl q
        · exact Or.inr ⟨j, by omega, oj, e⟩
      · show jx_E 27 4 _ _ _ = jx_E 27 4 _ _ _
        rw [b_27_4, bd_n Hu, if_neg (nI_ge hi (by omega)), bd_fr Hu, bd_at Hu (by omega), bd_fis Hu hp, jx_cI_e (m_21 Hu hp), hF i hi, eo, if_pos (by decide), nI_1]
    | true =>
      obtain ⟨c1, c2⟩ := HC.1 i hi eo
      have g1 := mm_gz_1 (o := M.2.2.2) c1
      obtain ⟨u2, x2, G2, s2⟩ := m_25R Ku Ru Hu W hF ho Gu hd hi eo
      have his : ∀ F, jx_is u r 3 F = F := fun F => by obtain ⟨_, _, Gu⟩ := Gu; exact gu_is Gu F
      have e245 : jx_A 245 [.long (mm_gk M.2.2.2 (mm_cl (M.2.2.1 i)))] u2 = some (.inl (some (.int (nI (mm_gz M.2.2.2 (mm_cl (M.2.2.1 i)))))), u2) := by
        rw [m_245]
        refine congrArg (fun z => (some (.inl (some (.int (nI z))), u2) : jx_R)) ?_
        exact mz_su_cong (fun c hc => by unfold mm_gk; rw [mb_mk _ hc])
      have e246 : jx_A 246 [.int (nI w), .int (nI (mm_gz M.2.2.2 (mm_cl (M.2.2.1 i))))] u2 = some (.inl (some (.int (nI (max w (mm_gz M.2.2.2 (mm_cl (M.2.2.1 i))))))), u2) := by
        rw [a_246]
        by_cases z : w < mm_gz M.2.2.2 (mm_cl (M.2.2.1 i))
        · rw [if_pos (nI_lt z (by omega)), Nat.max_eq_right (by omega)]
        · rw [if_neg (nI_nlt (by omega) (by omega)), Nat.max_eq_left (by omega)]
      refine ⟨(u2, max w (mm_gz M.2.2.2 (mm_cl (M.2.2.1 i))), .ref (bd_f a (p i))), ⟨G2, mz_eq_tr tu s2, Nat.max_le.mpr ⟨q1, g1.2⟩, fun j hj oj => ?_, ?_⟩, ?_⟩
      · by_cases z : j = i
        · subst z; exact Nat.le_max_right _ _
        · exact Nat.le_trans (q2 j (by omega) oj) (Nat.le_max_left _ _)
      · refine Or.inr ?_
        show ∃ j, j < i + 1 ∧ fg_on (M.2.2.1 j) = true ∧ max w (mm_gz M.2.2.2 (mm_cl (M.2.2.1 i))) = mm_gz M.2.2.2 (mm_cl (M.2.2.1 j))
        by_cases z : w ≤ mm_gz M.2.2.2 (mm_cl (M.2.2.1 i))
        · exact ⟨i, by omega, eo, Nat.max_eq_right z⟩
        · rcases q3 with q | ⟨j, hj, oj, e⟩
          · omega
          · exact ⟨j, by omega, oj, by rw [Nat.max_eq_left (by omega)]; exact e⟩
      · show jx_E 27 4 _ _ _ = jx_E 27 4 _ _ _
        rw [b_27_4, bd_n Hu, if_neg (nI_ge hi (by omega)), bd_fr Hu, bd_at Hu (by omega), bd_fis Hu hp, jx_cI_e (m_21 Hu hp), hF i hi, eo, if_neg (by decide), his, jx_cL_e x2, jx_cI_e e245, jx_cI_e e246, nI_1]
end GU
end JX
