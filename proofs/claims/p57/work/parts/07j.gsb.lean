/-! Guesses: ranks, the best gap, filling. -/
section JX
def mm_rk (n : Nat) (F : Nat → fg_T) (tw : Nat → Int) (k : Nat) : Nat := mz_su (fun j => (!fg_on (F j) && (decide (tw k < tw j) || (decide (tw j = tw k) && Nat.blt j k))).toNat) n
def mm_gr (n : Nat) (F : Nat → fg_T) (tw : Nat → Int) (r : Int32) (o : Option Nat) : Prop := match o with
  | some k => k < n ∧ fg_on (F k) = false ∧ nI (mm_rk n F tw k) = r
  | none => ∀ k, k < n → ¬ (fg_on (F k) = false ∧ nI (mm_rk n F tw k) = r)
def mm_mx (b : Int) (F : Nat → fg_T) (tw : Nat → Int) : Nat → Int | 0 => b | k + 1 => bif fg_on (F k) then mm_mx b F tw k else (if mm_mx b F tw k < tw k then tw k else mm_mx b F tw k)
def mm_pt (n : Nat) (F : Nat → fg_T) (o : Nat → Option fg_T) (c : Nat) : Int := bif mm_gap o c then mm_mx 0 F (fun k => mm_tw o (F k) c) n else 0
def mm_bg (n : Nat) (F : Nat → fg_T) (o : Nat → Option fg_T) : Nat → Int × Int | 0 => (-1, 0) | c + 1 => if (mm_bg n F o c).2 < mm_pt n F o c then (((c : Nat) : Int), mm_pt n F o c) else mm_bg n F o c
/-- the guess k on its best turn laid on the gap c -/
def mm_gf (M : mm_T) (k c : Nat) : fg_T := fg_sce (fg_stn (M.2.2.1 k) (mm_tn M.2.2.2 (M.2.2.1 k) c)) (c + 1)
def mm_pg (M : mm_T) (k c : Nat) : mm_T := (M.1, M.2.1, mz_up M.2.2.1 k (mm_gf M k c), mz_up M.2.2.2 c (some (mm_gf M k c)))
def mm_tws (M : mm_T) (c : Nat) : Nat → Int := fun k => mm_tw M.2.2.2 (M.2.2.1 k) c
/-- filling, in so many steps at most -/
def mm_fl : Nat → mm_T → Nat → mm_T → Prop
  | 0, M, r, M' => r = 0 ∧ M' = M
  | m + 1, M, r, M' => ((mm_bg M.1 M.2.2.1 M.2.2.2 64).1 = -1 ∧ r = 0 ∧ M' = M) ∨ (∃ c k r' : Nat, c < 64 ∧ (mm_bg M.1 M.2.2.1 M.2.2.2 64).1 = (c : Int) ∧ mm_gr M.1 M.2.2.1 (mm_tws M c) 0 (some k) ∧ r = r' + 1 ∧ mm_fl m (mm_pg M k c) r' M')
theorem mm_mx_b {b : Int} {F : Nat → fg_T} {tw : Nat → Int} (hb : -1000 ≤ b ∧ b ≤ 1000) (ht : ∀ k, -1000 ≤ tw k ∧ tw k ≤ 1000) : ∀ n, -1000 ≤ mm_mx b F tw n ∧ mm_mx b F tw n ≤ 1000
  | 0 => hb
  | n + 1 => by
    have h1 := mm_mx_b hb ht n (F := F)
    have h2 := ht n
    unfold mm_mx
    cases fg_on (F n) with
    | true => exact h1
    | false =>
      show -1000 ≤ (if mm_mx b F tw n < tw n then tw n else mm_mx b F tw n) ∧ (if mm_mx b F tw n < tw n then tw n else mm_mx b F tw n) ≤ 1000
      split <;> assumption
theorem mm_mx_0 {b : Int} {F : Nat → fg_T} {tw : Nat → Int} (hb : 0 ≤ b) : ∀ n, mm_mx b F tw n = if b < mm_mx 0 F tw n then mm_mx 0 F tw n else b
  | 0 => by
    show b = if b < 0 then 0 else b
    rw [if_neg (by omega)]
  | n + 1 => by
    have h1 := mm_mx_0 hb n (F := F) (tw := tw)
    unfold mm_mx
    cases fg_on (F n) with
    | true => exact h1
    | false =>
      show (if mm_mx b F tw n < tw n then tw n else mm_mx b F tw n) = if b < (if mm_mx 0 F tw n < tw n then tw n else mm_mx 0 F tw n) then (if mm_mx 0 F tw n < tw n then tw n else mm_mx 0 F tw n) else b
      rw [h1]
      by_cases c1 : b < mm_mx 0 F tw n <;> by_cases c2 : mm_mx 0 F tw n < tw n <;> by_cases c3 : b < tw n <;> simp only [c1, c2, c3, if_true, if_false] <;> first | rfl | (split <;> omega) | omega
theorem mm_mx_pos {F : Nat → fg_T} {tw : Nat → Int} : ∀ n, 0 ≤ mm_mx 0 F tw n ∧ (0 < mm_mx 0 F tw n → ∃ k, k < n ∧ fg_on (F k) = false ∧ tw k = mm_mx 0 F tw n)
  | 0 => ⟨Int.le_refl _, fun h => absurd h (Int.lt_irrefl 0)⟩
  | n + 1 => by
    have h1 := mm_mx_pos n (F := F) (tw := tw)
    unfold mm_mx
    cases e : fg_on (F n) with
    | true => exact ⟨h1.1, fun h => by obtain ⟨k, a, b, c⟩ := h1.2 h; exact ⟨k, by omega, b, c⟩⟩
    | false =>
      show 0 ≤ (if mm_mx 0 F tw n < tw n then tw n else mm_mx 0 F tw n) ∧ (0 < (if mm_mx 0 F tw n < tw n then tw n else mm_mx 0 F tw n) → ∃ k, k < n + 1 ∧ fg_on (F k) = false ∧ tw k = (if mm_mx 0 F tw n < tw n then tw n else mm_mx 0 F tw n))
      by_cases c : mm_mx 0 F tw n < tw n
      · rw [if_pos c]; exact ⟨by omega, fun _ => ⟨n, by omega, e, rfl⟩⟩
      · rw [if_neg c]; exact ⟨h1.1, fun h => by obtain ⟨k, a, b, d⟩ := h1.2 h; exact ⟨k, by omega, b, d⟩⟩
theorem mm_pt_b (n : Nat) (F : Nat → fg_T) (o : Nat → Option fg_T) (c : Nat) : 0 ≤ mm_pt n F o c ∧ mm_pt n F o c ≤ 1000 := by
  unfold mm_pt
  cases mm_gap o c with
  | false => exact ⟨Int.le_refl 0, show (0 : Int) ≤ 1000 by decide⟩
  | true => exact ⟨(mm_mx_pos n).1, (mm_mx_b (by decide) (fun k => by have := mm_tw_b o (F k) c; omega) n).2⟩
theorem mm_bg_s (n : Nat) (F : Nat → fg_T) (o : Nat → Option fg_T) : ∀ i, (0 ≤ (mm_bg n F o i).2 ∧ (mm_bg n F o i).2 ≤ 1000) ∧ ((mm_bg n F o i).1 = -1 ∨ ∃ c : Nat, c < i ∧ (mm_bg n F o i).1 = (c : Int) ∧ mm_gap o c = true ∧ 0 < mm_pt n F o c)
  | 0 => ⟨⟨Int.le_refl 0, show (0 : Int) ≤ 1000 by decide⟩, Or.inl rfl⟩
  | i + 1 => by
    have h := mm_bg_s n F o i
    have hb := mm_pt_b n F o i
    unfold mm_bg
    by_cases c : (mm_bg n F o i).2 < mm_pt n F o i
    · rw [if_pos c]
      refine ⟨hb, Or.inr ⟨i, by omega, rfl, ?_, by omega⟩⟩
      cases e : mm_gap o i with
      | true => rfl
      | false =>
        unfold mm_pt at c
        rw [e] at c
        exact absurd c (by show ¬ _ < (0 : Int); omega)
    · rw [if_neg c]
      refine ⟨h.1, ?_⟩
      rcases h.2 with q | ⟨d, a, b, e, f⟩
      · exact Or.inl q
      · exact Or.inr ⟨d, by omega, b, e, f⟩
theorem mm_rk_cong {n : Nat} {F F' : Nat → fg_T} {tw tw' : Nat → Int} (h : ∀ k, k < n → F k = F' k) (ht : ∀ k, k < n → tw k = tw' k) {k : Nat} (hk : k < n) : mm_rk n F tw k = mm_rk n F' tw' k := mz_su_cong (fun j hj => by rw [h j hj, ht j hj, ht k hk])
theorem mm_gr_cong {n : Nat} {F F' : Nat → fg_T} {tw tw' : Nat → Int} (h : ∀ k, k < n → F k = F' k) (ht : ∀ k, k < n → tw k = tw' k) {r : Int32} {o : Option Nat} (q : mm_gr n F tw r o) : mm_gr n F' tw' r o := by
  cases o with
  | none => exact fun k hk z => q k hk (by rw [h k hk, mm_rk_cong h ht hk]; exact z)
  | some k => exact ⟨q.1, by rw [← h k q.1]; exact q.2.1, by rw [← mm_rk_cong h ht q.1]; exact q.2.2⟩
theorem mm_mx_cong {b : Int} {F F' : Nat → fg_T} {tw tw' : Nat → Int} : ∀ {n : Nat}, (∀ k, k < n → F k = F' k) → (∀ k, k < n → tw k = tw' k) → mm_mx b F tw n = mm_mx b F' tw' n
  | 0, _, _ => rfl
  | n + 1, h, ht => by
    unfold mm_mx
    rw [mm_mx_cong (fun k hk => h k (by omega)) (fun k hk => ht k (by omega)), h n (by omega), ht n (by omega)]
theorem mm_pt_cong {n : Nat} {F F' : Nat → fg_T} {o o' : Nat → Option fg_T} (h : ∀ k, k < n → F k = F' k) (ho : ∀ c, c < 64 → o c = o' c) {c : Nat} (hc : c < 64) : mm_pt n F o c = mm_pt n F' o' c := by
  unfold mm_pt
  rw [mm_gap_cong ho hc, mm_mx_cong h (fun k hk => by rw [h k hk, mm_tw_cong ho hc])]
theorem mm_bg_cong {n : Nat} {F F' : Nat → fg_T} {o o' : Nat → Option fg_T} (h : ∀ k, k < n → F k = F' k) (ho : ∀ c, c < 64 → o c = o' c) : ∀ {i : Nat}, i ≤ 64 → mm_bg n F o i = mm_bg n F' o' i
  | 0, _ => rfl
  | i + 1, hi => by
    unfold mm_bg
    rw [mm_bg_cong h ho (by omega), mm_pt_cong h ho (by omega)]
/-- where there is one, one is the first -/
theorem mm_rk_0 {F : Nat → fg_T} {tw : Nat → Int} : ∀ n, (∃ k, k < n ∧ fg_on (F k) = false) → ∃ k, k < n ∧ fg_on (F k) = false ∧ ∀ j, j < n → fg_on (F j) = false → ¬ (tw k < tw j ∨ (tw j = tw k ∧ j < k))
  | 0, h => by obtain ⟨k, hk, _⟩ := h; omega
  | n + 1, h => by
    by_cases hs : ∃ k, k < n ∧ fg_on (F k) = false
    · obtain ⟨k, hk, ho, hb⟩ := mm_rk_0 (tw := tw) n hs
      by_cases hn : fg_on (F n) = false ∧ tw k < tw n
      · refine ⟨n, by omega, hn.1, fun j hj hjo q => ?_⟩
        by_cases z : j = n
        · subst z; omega
        · have := hb j (by omega) hjo
          omega
      · refine ⟨k, by omega, ho, fun j hj hjo q => ?_⟩
        by_cases z : j = n
        · subst z
          rcases q with q | q
          · exact hn ⟨hjo, q⟩
          · omega
        · exact hb j (by omega) hjo q
    · obtain ⟨k, hk, ho⟩ := h
      have : k = n := by
        by_cases z : k = n
        · exact z
        · exact absurd ⟨k, by omega, ho⟩ hs
      subst this
      refine ⟨k, by omega, ho, fun j hj hjo q => ?_⟩
      by_cases z : j = k
      · subst z; omega
      · exact hs ⟨j, by omega, hjo⟩
theorem mz_su_0 {f : Nat → Nat} : ∀ {n : Nat}, (∀ i, i < n → f i = 0) → mz_su f n = 0
  | 0, _ => rfl
  | n + 1, h => by
    show mz_su f n + f n = 0
    rw [mz_su_0 (fun i hi => h i (by omega)), h n (by omega)]
theorem mm_gr_0 {n : Nat} {F : Nat → fg_T} {tw : Nat → Int} (h : ∃ k, k < n ∧ fg_on (F k) = false) : ¬ mm_gr n F tw 0 none := by
  obtain ⟨k, hk, ho, hb⟩ := mm_rk_0 n h (tw := tw)
  intro q
  refine q k hk ⟨ho, ?_⟩
  have : mm_rk n F tw k = 0 := mz_su_0 (fun j hj => by
    cases e : fg_on (F j) with
    | true => rfl
    | false =>
      have := hb j hj e
      have c1 : ¬ tw k < tw j := fun z => this (Or.inl z)
      have c2 : ¬ (tw j = tw k ∧ j < k) := fun z => this (Or.inr z)
      rw [decide_eq_false c1]
      by_cases z : tw j = tw k
      · rw [decide_eq_true z, show Nat.blt j k = false from by
          cases e2 : Nat.blt j k with
          | false => rfl
          | true => exact absurd ⟨z, Nat.le_of_ble_eq_true e2⟩ c2]
        rfl
      · rw [decide_eq_false z]; rfl)
  rw [this]
  rfl
section GS
variable {xs : List Int32} {h : jx_H} {a n nx q : Nat} {p : Nat → Nat} {A : Nat → fg_T} {g : Nat → Option Nat} {wa co wt : Nat → Int32} {gp : Int32}
theorem m_37 (H : bd_I h a n nx p A g) (G : gs_I h q wa co wt gp) {tw : Nat → Int} (hb : ∀ k, -1000 ≤ tw k ∧ tw k ≤ 1000) (hw : ∀ k, k < n → wt k = zI (tw k)) {k : Nat} (hk : k < n) : jx_A 37 [.ref q, .ref a, .int (nI k)] h = some (.inl (some (.int (nI (mm_rk n (fun k => A (p k)) tw k)))), h) := by
  rw [a_37]
  have hn := bd_n20 H
  refine mz_lpj (fun i (v : Value) => jx_E 37 5 [.ref q, .ref a, .int (nI k), .int (nI (mz_su (fun j => (!fg_on (A (p j)) && (decide (tw k < tw j) || (decide (tw j = tw k) && Nat.blt j k))).toNat) i)), .int (nI i), v] [] h) n _ ?_ ?_ 0 jx_j (Nat.zero_le _)
  · intro v
    show jx_E 37 5 _ _ _ = _
    rw [b_37_5, bd_n H, if_pos (nI_le (Nat.le_refl _) (by omega))]
    rfl
  · intro i v hi
    have b1 := hb k
    have b2 := hb i
    have hp := bd_p H hi
    have E : ∃ v', jx_E 37 5 [.ref q, .ref a, .int (nI k), .int (nI (mz_su (fun j => (!fg_on (A (p j)) && (decide (tw k < tw j) || (decide (tw j = tw k) && Nat.blt j k))).toNat) i)), .int (nI i), v] [] h = jx_E 37 5 [.ref q, .ref a, .int (nI k), .int (nI (mz_su (fun j => (!fg_on (A (p j)) && (decide (tw k < tw j) || (decide (tw j = tw k) && Nat.blt j k))).toNat) i + (!fg_on (A (p i)) && (decide (tw k < tw i) || (decide (tw i = tw k) && Nat.blt i k))).toNat)), .int (nI (i + 1)), v'] [] h := by
      rw [b_37_5, bd_n H, if_neg (nI_ge hi (by omega))]
      simp only [gs_2 G, gs_wt G (show i < 20 by omega), gs_wt G (show k < 20 by omega), hw i hi, hw k hk, bd_fr H, bd_at H (show i < 20 by omega), bd_fis H hp, jx_cI_e (m_21 H hp), nI_1]
      by_cases c1 : tw k < tw i
      · rw [if_pos ((zI_lt (by omega) (by omega) (by omega) (by omega)).mpr c1), decide_eq_true c1]
        refine ⟨.int 1, ?_⟩
        cases fg_on (A (p i)) with
        | true => rw [if_neg (by decide)]; rfl
        | false => rw [if_pos (by decide)]; rfl
      · rw [if_neg (fun z => c1 ((zI_lt (by omega) (by omega) (by omega) (by omega)).mp z)), decide_eq_false c1]
        by_cases c2 : tw i = tw k
        · rw [if_pos ((zI_eq (by omega) (by omega) (by omega) (by omega)).mpr c2), decide_eq_true c2]
          by_cases c3 : i < k
          · rw [if_neg (nI_ge c3 (by omega)), show Nat.blt i k = true from Nat.ble_eq_true_of_le c3]
            refine ⟨.int 1, ?_⟩
            cases fg_on (A (p i)) with
            | true => rw [if_neg (by decide)]; rfl
            | false => rw [if_pos (by decide)]; rfl
          · rw [if_pos (nI_le (by omega) (by omega)), show Nat.blt i k = false from by
              cases e2 : Nat.blt i k with
              | false => rfl
              | true => exact absurd (Nat.le_of_ble_eq_true e2) c3]
            refine ⟨.int 0, ?_⟩
            cases fg_on (A (p i)) <;> rfl
        · rw [if_neg (fun z => c2 ((zI_eq (by omega) (by omega) (by omega) (by omega)).mp z)), decide_eq_false c2]
          refine ⟨.int 0, ?_⟩
          cases fg_on (A (p i)) <;> rfl
    exact E
theorem m_36 (H : bd_I h a n nx p A g) (G : gs_I h q wa co wt gp) (hd : a + 43 ≤ q ∨ q + 4 ≤ a) {o : Nat → Option fg_T} {c : Nat} (L : gs_L o c wa co) (r : Int32) :
    ∃ h' wt' w, mm_gr n (fun k => A (p k)) (fun k => mm_tw o (A (p k)) c) r w ∧ jx_A 36 [.ref q, .ref a, .int r] h = some (.inl (some (bd_v a (w.map p))), h') ∧ gs_I h' q wa co wt' gp ∧ mz_eq q (q + 4) h h' := by
  have hn := bd_n20 H
  rw [a_36]
  refine mz_inv (γ := jx_H) (fun i u => jx_E 36 2 [.ref q, .ref a, .int r, .int (nI i)] [] u) (fun i u => ∃ wt', gs_I u q wa co wt' gp ∧ (∀ k, k < i → wt' k = zI (mm_tw o (A (p k)) c)) ∧ mz_eq q (q + 4) h u) n
    (fun X => ∃ h' wt' w, mm_gr n (fun k => A (p k)) (fun k => mm_tw o (A (p k)) c) r w ∧ X = some (.inl (some (bd_v a (w.map p))), h') ∧ gs_I h' q wa co wt' gp ∧ mz_eq q (q + 4) h h') ?_ ?_ 0 h (Nat.zero_le _) ⟨wt, G, fun k hk => by omega, mz_eq_rf⟩
  · rintro u ⟨wt', Gu, hw, tu⟩
    have Hu := bd_eq H tu hd
    have := mz_sr (γ := Unit) (fun i _ => jx_E 36 34 [.ref q, .ref a, .int r, .int (nI i)] [] u) n (fun i => fg_on (A (p i)) = false ∧ nI (mm_rk n (fun k => A (p k)) (fun k => mm_tw o (A (p k)) c) i) = r) (fun i => some (.inl (some (.ref (bd_f a (p i)))), u)) (some (.inl (some .null), u))
      (fun _ => by
        show jx_E 36 34 _ _ _ = _
        rw [b_36_34, bd_n Hu, if_pos (nI_le (Nat.le_refl _) (by omega))])
      (fun i _ hi => by
        have e : jx_E 36 34 [.ref q, .ref a, .int r, .int (nI i)] [] u = if fg_on (A (p i)) = false ∧ nI (mm_rk n (fun k => A (p k)) (fun k => mm_tw o (A (p k)) c) i) = r then some (.inl (some (.ref (bd_f a (p i)))), u) else jx_E 36 34 [.ref q, .ref a, .int r, .int (nI (i + 1))] [] u := by
          rw [b_36_34, bd_n Hu, if_neg (nI_ge hi (by omega)), bd_fr Hu, bd_at Hu (by omega), bd_fis Hu (bd_p H hi), jx_cI_e (m_21 Hu (bd_p H hi)), nI_1]
          cases fg_on (A (p i)) with
          | true => rw [if_neg (by decide), if_neg (fun z => by cases z.1)]
          | false =>
            rw [if_pos (by decide), gs_is Gu, jx_cI_e (m_37 Hu Gu (fun k => by have := mm_tw_b o (A (p k)) c; omega) hw hi)]
            by_cases z : nI (mm_rk n (fun k => A (p k)) (fun k => mm_tw o (A (p k)) c) i) = r
            · rw [if_pos z, if_pos ⟨rfl, z⟩, bd_fr Hu, bd_at Hu (by omega)]
            · rw [if_neg z, if_neg (fun y => z y.2)]
        by_cases z : fg_on (A (p i)) = false ∧ nI (mm_rk n (fun k => A (p k)) (fun k => mm_tw o (A (p k)) c) i) = r
        · exact Or.inl ⟨z, by show jx_E 36 34 _ _ _ = _; rw [e, if_pos z]⟩
        · exact Or.inr ⟨z, (), by show jx_E 36 34 _ _ _ = _; rw [e, if_neg z]⟩) ()
    have e0 : jx_E 36 2 [.ref q, .ref a, .int r, .int (nI n)] [] u = jx_E 36 34 [.ref q, .ref a, .int r, .int (nI 0)] [] u := by
      rw [b_36_2, bd_n Hu, if_pos (nI_le (Nat.le_refl _) (by omega))]
      rfl
    rcases this with ⟨i, h1, h2, h3, h4⟩ | ⟨h1, h2⟩
    · exact ⟨u, wt', some i, ⟨h1, h2⟩, by show jx_E 36 2 _ _ _ = _; rw [e0]; exact h4, Gu, tu⟩
    · exact ⟨u, wt', none, h1, by show jx_E 36 2 _ _ _ = _; rw [e0]; exact h2, Gu, tu⟩
  · rintro i u hi ⟨wt', Gu, hw, tu⟩
    have Hu := bd_eq H tu hd
    obtain ⟨u2, x2, G2, s2⟩ := gs_pwt Gu (k := i) (by omega) (zI (mm_tw o (A (p i)) c))
    refine Or.inr ⟨u2, ⟨_, G2, fun k hk => ?_, mz_eq_tr tu s2⟩, ?_⟩
    · by_cases z : k = i
      · subst z; rw [mz_up_s]
      · rw [mz_up_n z]; exact hw k (by omega)
    · show jx_E 36 2 _ _ _ = jx_E 36 2 _ _ _
      rw [b_36_2, bd_n Hu, if_neg (nI_ge hi (by omega)), gs_2 Gu, bd_fr Hu, bd_at Hu (by omega), gs_is Gu, jx_cI_e (m_35 Hu Gu L (bd_p H hi)), x2, nI_1]
theorem m_38 (H : bd_I h a n nx p A g) (G : gs_I h q wa co wt gp) (hd : a + 43 ≤ q ∨ q + 4 ≤ a) {o : Nat → Option fg_T} {c i : Nat} (L : gs_L o c wa co) (hg : gp = nI c) (hc : c < 64) (hi : i < 20) :
    ∃ h', jx_A 38 [.ref q, .ref a, .ref (bd_f a i)] h = some (.inl none, h') ∧ bd_I h' a n nx p (mz_up A i (fg_sce (fg_stn (A i) (mm_tn o (A i) c)) (c + 1))) (mz_up g c (some i)) ∧ mz_eq a (a + 43) h h' := by
  subst hg
  obtain ⟨h1, x1, H1, t1⟩ := bd_ptn H hi (v := mm_tn o (A i) c) (by have := mm_bt_le (mm_wt o (A i) c) 3; unfold mm_tn; omega)
  obtain ⟨h2, x2, H2, t2⟩ := m_9 H1 hi hc
  rw [mz_up_s, mz_up_up] at H2
  refine ⟨h2, ?_, H2, mz_eq_tr t1 t2⟩
  rw [a_38, gs_is G, jx_cI_e (m_34 H G L hi), x1, gs_3 (gs_eq G t1 hd.symm), bd_is H1, jx_cV_e x2]
theorem m_39 (H : bd_I h a n nx p A g) (G : gs_I h q wa co wt gp) {o : Nat → Option fg_T} {c : Nat} (L : gs_L o c wa co) {b : Int} (hb : -1000 ≤ b ∧ b ≤ 1000) : jx_A 39 [.ref q, .int (zI b), .ref a] h = some (.inl (some (.int (zI (mm_mx b (fun k => A (p k)) (fun k => mm_tw o (A (p k)) c) n)))), h) := by
  rw [a_39]
  have hn := bd_n20 H
  refine mz_lp (fun i => jx_E 39 5 [.ref q, .int (zI b), .ref a, .int (zI (mm_mx b (fun k => A (p k)) (fun k => mm_tw o (A (p k)) c) i)), .int (nI i)] [] h) n _ ?_ ?_ 0 (Nat.zero_le _)
  · show jx_E 39 5 _ _ _ = _
    rw [b_39_5, bd_n H, if_pos (nI_le (Nat.le_refl _) (by omega))]
  · intro i hi
    have hp := bd_p H hi
    have b1 := mm_mx_b (F := fun k => A (p k)) (tw := fun k => mm_tw o (A (p k)) c) hb (fun k => by have := mm_tw_b o (A (p k)) c; omega) i
    have b2 := mm_tw_b o (A (p i)) c
    show jx_E 39 5 _ _ _ = jx_E 39 5 [.ref q, .int (zI b), .ref a, .int (zI (bif fg_on (A (p i)) then mm_mx b (fun k => A (p k)) (fun k => mm_tw o (A (p k)) c) i else (if mm_mx b (fun k => A (p k)) (fun k => mm_tw o (A (p k)) c) i < mm_tw o (A (p i)) c then mm_tw o (A (p i)) c else mm_mx b (fun k => A (p k)) (fun k => mm_tw o (A (p k)) c) i))), .int (nI (i + 1))] [] h
    rw [b_39_5, bd_n H, if_neg (nI_ge hi (by omega)), bd_fr H, bd_at H (by omega), bd_fis H hp, jx_cI_e (m_21 H hp), nI_1]
    cases fg_on (A (p i)) with
    | true => rw [if_neg (by decide)]; rfl
    | false => rw [if_pos (by decide), bd_fr H, bd_at H (by omega), gs_is G, jx_cI_e (m_35 H G L hp), jx_cI_e (m_246 (by omega) (by omega) (by omega) (by omega) h)]; rfl
theorem zI_ne {z : Int} (h : -1000000 ≤ z) (h2 : z ≤ 1000000) : zI z = -1 ↔ z = -1 := by
  have e : (-1 : Int32) = zI (-1) := by decide +kernel
  rw [e]
  exact zI_eq h h2 (by decide) (by decide)
theorem m_40 (K : mz_K xs h) (H : bd_I h a n nx p A g) (G : gs_I h q wa co wt gp) (hd : a + 43 ≤ q ∨ q + 4 ≤ a) :
    ∃ h' wa' co' gp', jx_A 40 [.ref q, .ref a] h = some (.inl (some (.int (zI (mm_bg n (fun k => A (p k)) (bd_o A g) 64).1))), h') ∧ gs_I h' q wa' co' wt gp' ∧ mz_eq q (q + 4) h h' := by
  have hn := bd_n20 H
  rw [a_40, show (-1 : Int32) = zI (-1) from by decide +kernel]
  refine mz_inv (γ := jx_H × Value) (fun i z => jx_E 40 7 [.ref q, .ref a, .int (zI (mm_bg n (fun k => A (p k)) (bd_o A g) i).1), .int (zI (mm_bg n (fun k => A (p k)) (bd_o A g) i).2), .int (nI i), z.2] [] z.1) (fun i z => ∃ wa' co' gp', gs_I z.1 q wa' co' wt gp' ∧ mz_eq q (q + 4) h z.1) 64
    (fun X => ∃ h' wa' co' gp', X = some (.inl (some (.int (zI (mm_bg n (fun k => A (p k)) (bd_o A g) 64).1))), h') ∧ gs_I h' q wa' co' wt gp' ∧ mz_eq q (q + 4) h h') ?_ ?_ 0 (h, jx_j) (by decide) ⟨wa, co, gp, G, mz_eq_rf⟩
  · rintro ⟨u, v⟩ ⟨wa', co', gp', Gu, tu⟩
    refine ⟨u, wa', co', gp', ?_, Gu, tu⟩
    show jx_E 40 7 _ _ _ = _
    rw [b_40_7, if_pos (by decide)]
  · rintro i ⟨u, v⟩ hi ⟨wa', co', gp', Gu, tu⟩
    have Hu := bd_eq H tu hd
    have Ku := mz_K_eq K tu G.2.2.2.2
    have sp := (mm_bg_s n (fun k => A (p k)) (bd_o A g) i).1
    have hpt : mm_pt n (fun k => A (p k)) (bd_o A g) i = bif mm_gap (bd_o A g) i then mm_mx 0 (fun k => A (p k)) (fun k => mm_tw (bd_o A g) (A (p k)) i) n else 0 := rfl
    have hbg : mm_bg n (fun k => A (p k)) (bd_o A g) (i + 1) = if (mm_bg n (fun k => A (p k)) (bd_o A g) i).2 < mm_pt n (fun k => A (p k)) (bd_o A g) i then (((i : Nat) : Int), mm_pt n (fun k => A (p k)) (bd_o A g) i) else mm_bg n (fun k => A (p k)) (bd_o A g) i := rfl
    cases eg : mm_gap (bd_o A g) i with
    | false =>
      refine Or.inr ⟨(u, v), ⟨wa', co', gp', Gu, tu⟩, ?_⟩
      show jx_E 40 7 _ _ _ = jx_E 40 7 _ _ _
      rw [b_40_7, if_neg (show ¬ (64 : Int32) ≤ nI i from nI_ge hi (by decide)), bd_is Hu, jx_cI_e (m_15 Ku Hu hi), eg, if_pos (by decide), nI_1, hbg, if_neg (by rw [hpt, eg]; show ¬ _ < (0 : Int); omega)]
    | true =>
      obtain ⟨u2, wa2, co2, x2, G2, L2, s2⟩ := m_32 Ku Hu Gu hd hi
      have H2 := bd_eq Hu s2 hd
      have bm := mm_mx_b (F := fun k => A (p k)) (tw := fun k => mm_tw (bd_o A g) (A (p k)) i) (b := (mm_bg n (fun k => A (p k)) (bd_o A g) i).2) (by omega) (fun k => by have := mm_tw_b (bd_o A g) (A (p k)) i; omega) n
      have em := mm_mx_0 (F := fun k => A (p k)) (tw := fun k => mm_tw (bd_o A g) (A (p k)) i) (b := (mm_bg n (fun k => A (p k)) (bd_o A g) i).2) sp.1 n
      refine Or.inr ⟨(u2, .int (zI (mm_mx (mm_bg n (fun k => A (p k)) (bd_o A g) i).2 (fun k => A (p k)) (fun k => mm_tw (bd_o A g) (A (p k)) i) n))), ⟨wa2, co2, _, G2, mz_eq_tr tu s2⟩, ?_⟩
      show jx_E 40 7 _ _ _ = jx_E 40 7 _ _ _
      rw [b_40_7, if_neg (show ¬ (64 : Int32) ≤ nI i from nI_ge hi (by decide)), bd_is Hu, jx_cI_e (m_15 Ku Hu hi), eg, if_neg (by decide), gs_is Gu, jx_cV_e x2, gs_is G2, jx_cI_e (m_39 H2 G2 L2 (by omega)), nI_1, hbg, hpt, eg]
      show _ = jx_E 40 7 [.ref q, .ref a, .int (zI (if (mm_bg n (fun k => A (p k)) (bd_o A g) i).2 < mm_mx 0 (fun k => A (p k)) (fun k => mm_tw (bd_o A g) (A (p k)) i) n then (((i : Nat) : Int), mm_mx 0 (fun k => A (p k)) (fun k => mm_tw (bd_o A g) (A (p k)) i) n) else mm_bg n (fun k => A (p k)) (bd_o A g) i).1), .int (zI (if (mm_bg n (fun k => A (p k)) (bd_o A g) i).2 < mm_mx 0 (fun k => A (p k)) (fun k => mm_tw (bd_o A g) (A (p k)) i) n then (((i : Nat) : Int), mm_mx 0 (fun k => A (p k)) (fun k => mm_tw (bd_o A g) (A (p k)) i) n) else mm_bg n (fun k => A (p k)) (bd_o A g) i).2), .int (nI (i + 1)), _] [] u2
      by_cases c : (mm_bg n (fun k => A (p k)) (bd_o A g) i).2 < mm_mx 0 (fun k => A (p k)) (fun k => mm_tw (bd_o A g) (A (p k)) i) n
      · rw [if_pos c] at em
        rw [if_pos c, if_neg (fun z => by have := (zI_le (by omega) (by omega) (by omega) (by omega)).mp z; omega), em, zI_n]
      · rw [if_neg c] at em
        rw [if_neg c, if_pos ((zI_le (by omega) (by omega) (by omega) (by omega)).mpr (by omega))]
end GS
end JX
