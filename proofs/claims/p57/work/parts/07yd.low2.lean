/-! What the law makes of edges: contacts, pairs, worths, turns. -/
section JX
section LO
variable {xs : List Int32} {C : cl_T} {h : jx_H}
theorem l_68 (L : lo_I xs C h) (D : dr_I C.1) {f : fg_T} (P : pd C.1 f) {s : Nat} (hs : s < 4) : lo_V xs C h (jx_A 68 [.ref 200, .int (nI (fg_id f)), .int (nI s)] h) (.int (nI (fg_at f s))) 0 := by
  obtain ⟨k, h1, h2, h3⟩ := P
  rw [h3]
  refine lo_q L (c_68 L.2.1 (nI k) (nI s)) (fun o q => ?_)
  obtain ⟨t, q1, q2⟩ := q
  rw [q_fd D h1 q1] at q2
  obtain ⟨u, q3, q4⟩ := q2
  have e : u = some s := q_rng_1 (N := 3) (by decide) q3 ⟨rfl, by omega⟩
  rw [e] at q4
  rw [q4]
  dsimp only
  rw [h2]
theorem l_66 (L : lo_I xs C h) (D : dr_I C.1) {f : fg_T} (P : pd C.1 f) : lo_V xs C h (jx_A 66 [.ref 200, .int (nI (fg_id f))] h) (.int (nI (fg_co f))) 0 := by
  obtain ⟨k, h1, h2, h3⟩ := P
  rw [h3]
  refine lo_q L (c_66 L.2.1 (nI k)) (fun o q => ?_)
  obtain ⟨t, q1, q2⟩ := q
  rw [q_fd D h1 q1] at q2
  rw [q2]
  dsimp only
  rw [h2]
theorem l_67 (L : lo_I xs C h) (D : dr_I C.1) {f : fg_T} (P : pd C.1 f) : lo_V xs C h (jx_A 67 [.ref 200, .int (nI (fg_id f))] h) (.int (nI (fg_tn f))) 0 := by
  obtain ⟨k, h1, h2, h3⟩ := P
  rw [h3]
  refine lo_q L (c_67 L.2.1 (nI k)) (fun o q => ?_)
  obtain ⟨t, q1, q2⟩ := q
  rw [q_fd D h1 q1] at q2
  rw [q2]
  dsimp only
  rw [h2]
theorem lg_xor : ∀ a, a < 16 → ∀ b, b < 16 → decide ((nI a ^^^ nI b) = 15) = (a + b == 15) := by decide +kernel
theorem lg_opp : ∀ s, s < 4 → (nI s + 2) - (nI s + 2) / 4 * 4 = nI ((s + 2) % 4) := by decide +kernel
theorem lg_xorI {a b : Nat} (ha : a < 16) (hb : b < 16) {α : Type} (x y : α) : (if (nI a ^^^ nI b) = 15 then x else y) = (bif a + b == 15 then x else y) := by
  rw [← lg_xor a ha b hb]
  by_cases c : (nI a ^^^ nI b) = 15
  · rw [if_pos c, decide_eq_true c]; rfl
  · rw [if_neg c, decide_eq_false c]; rfl
theorem fg_at16 {f : fg_T} (O : fg_ok f) (s : Nat) : fg_at f s < 16 := O.2.2.1 _
/-- a contact's number: 1 a join, -1 a clash -/
def lg_k (n : Nat) : Int32 := match n with | 0 => 0 | 1 => 1 | _ => -1
theorem lg_ct2 {o : Nat → Option fg_T} {c s : Nat} : mm_ct o c s = 0 ∨ mm_ct o c s = 1 ∨ mm_ct o c s = 2 := by
  unfold mm_ct
  cases o c with
  | none => exact Or.inl rfl
  | some f =>
    dsimp only
    cases (mz_bs c s).bind o with
    | none => exact Or.inl rfl
    | some f' =>
      dsimp only
      cases fg_fit f s f' with
      | true => exact Or.inr (Or.inl rfl)
      | false => exact Or.inr (Or.inr rfl)
theorem l_176 (L : lo_I xs C h) (D : dr_I C.1) {c s : Nat} (hc : c < 64) (hs : s < 4) : lo_V xs C h (jx_A 176 [.ref 200, .int (nI (c / 8)), .int (nI (c % 8)), .int (nI s)] h) (.int (lg_k (mm_ct C.1.2.2.2 c s))) 2 := by
  rw [a_176]
  refine lo_cI (l_147 L (q_rc hc)) (by decide) (fun h1 L1 => ?_)
  refine lo_cI (l_169 L1 hc hs) (by decide) (fun h2 L2 => ?_)
  unfold mm_ct
  rcases lb_neg D (c := some c) (fun d e => by cases e; exact hc) with ⟨q1, q2⟩ | ⟨f, q1, q2, q3, q4⟩
  · rw [if_pos q1, show C.1.2.2.2 c = none from q2]
    exact lo_rt L2 _
  · rw [if_neg q4, show C.1.2.2.2 c = some f from q1, q3]
    dsimp only
    rcases lb_neg D (lb_bs hc hs) with ⟨r1, r2⟩ | ⟨f', r1, r2, r3, r4⟩
    · rw [if_neg (Int32.not_le.mpr r1), r2]
      exact lo_rt L2 _
    · rw [if_pos (Int32.not_lt.mp r4), r1, r3]
      refine lo_is L2 (lo_cI (l_68 L2 D q2 hs) (by decide) (fun h3 L3 => ?_))
      rw [lg_opp s hs]
      refine lo_is L3 (lo_cI (l_68 L3 D r2 (show (s + 2) % 4 < 4 by omega)) (by decide) (fun h4 L4 => ?_))
      rw [lg_xorI (fg_at16 (pd_ok D q2).1 s) (fg_at16 (pd_ok D r2).1 _)]
      show lo_V xs C h4 _ (.int (lg_k (bif fg_fit f s f' then 1 else 2))) _
      unfold fg_fit
      cases fg_at f s + fg_at f' ((s + 2) % 4) == 15 with
      | true => exact lo_rt L4 _
      | false => exact lo_rt L4 _
theorem lg_kI {n k : Nat} (hn : n = 0 ∨ n = 1 ∨ n = 2) (hk : k = 1 ∨ k = 2) {α : Type} (x y : α) : (if lg_k n = lg_k k then x else y) = (bif n == k then x else y) := by
  rcases hn with rfl | rfl | rfl <;> rcases hk with rfl | rfl <;> rfl
theorem l_177 (L : lo_I xs C h) (D : dr_I C.1) {c k : Nat} (hc : c < 64) (hk : k = 1 ∨ k = 2) : lo_V xs C h (jx_A 177 [.ref 200, .int (nI (c / 8)), .int (nI (c % 8)), .int (lg_k k)] h) (.int (nI (mm_ms C.1.2.2.2 k c))) 8 := by
  rw [a_177]
  refine lo_wd (lo_lp (γ := Unit) (fun i _ h => jx_E 177 6 [.ref 200, .int (nI (c / 8)), .int (nI (c % 8)), .int (lg_k k), .int (nI (mz_su (fun s => (mm_ct C.1.2.2.2 c s == k).toNat) i)), .int (nI i)] [] h) 4 2 0 _ (fun _ _ => True) ?_ ?_ 0 () h (by decide) trivial L) (by decide)
  · intro _ h _ L
    show lo_V xs C h (jx_E 177 6 _ _ _) _ 0
    rw [b_177_6, if_pos (by decide)]
    exact lo_rt L _
  · intro i _ h B hi _ L kk
    show lo_V xs C h (jx_E 177 6 _ _ _) _ _
    rw [b_177_6, if_neg (show ¬ (4 : Int32) ≤ nI i from nI_ge hi (by decide))]
    refine lo_cI (l_176 L D hc hi) (by omega) (fun h1 L1 => ?_)
    have k2 := kk () h1 trivial L1
    have e1 : mz_su (fun s => (mm_ct C.1.2.2.2 c s == k).toNat) (i + 1) = mz_su (fun s => (mm_ct C.1.2.2.2 c s == k).toNat) i + (mm_ct C.1.2.2.2 c i == k).toNat := rfl
    rw [e1] at k2
    rw [lg_kI lg_ct2 hk, nI_1, nI_1]
    cases e : mm_ct C.1.2.2.2 c i == k with
    | true => rw [e] at k2; exact lo_wd k2 (by omega)
    | false => rw [e] at k2; rw [Int32.add_zero]; exact lo_wd k2 (by omega)
theorem l_turn : ∀ s, s < 4 → ∀ t, t < 4 → ∀ q, q < 4 → (((nI s - nI t) + nI q) + 4) - (((nI s - nI t) + nI q) + 4) / 4 * 4 = nI ((s + 4 - t + q) % 4) := by decide +kernel
theorem lg_side : ∀ s, s < 4 → ∀ t, t < 4 → ∀ q, q < 4 → ((s + 4 - t + q) % 4 + 4 - q) % 4 = (s + 4 - t) % 4 := by decide +kernel
theorem l_171 (L : lo_I xs C h) (D : dr_I C.1) {f : fg_T} (P : pd C.1 f) {s t : Nat} (hs : s < 4) (ht : t < 4) : lo_V xs C h (jx_A 171 [.ref 200, .int (nI (fg_id f)), .int (nI s), .int (nI t)] h) (.int (nI (fg_ed f ((s + 4 - t) % 4)))) 0 := by
  rw [a_171]
  have O := (pd_ok D P).1
  refine lo_is L (lo_cI (l_67 L D P) (by decide) (fun h1 L1 => ?_))
  rw [l_turn s hs t ht _ O.2.2.2.1]
  refine lo_is L1 (lo_cI (l_68 L1 D P (show (s + 4 - t + fg_tn f) % 4 < 4 by omega)) (by decide) (fun h2 L2 => ?_))
  unfold fg_at
  rw [lg_side s hs t ht _ O.2.2.2.1]
  exact lo_rt L2 _
end LO
end JX
