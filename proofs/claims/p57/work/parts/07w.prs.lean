/-! Reading commands: what a text says, and the class's reader. -/
section JX
/-- the text's characters; behind its end none -/
def pz_c (tx : Nat → Nat) (L i : Nat) : Nat := if i < L then tx i else 70000
/-- so many characters of a word stand at a position -/
def pz_lt (c : Nat → Nat) : List Nat → Nat → Nat | [], _ => 0 | a :: l, po => if c po = a then 1 + pz_lt c l (po + 1) else 0
abbrev pz_R (α : Type) : Type := Nat ⊕ (α × Nat)
def pz_dg (x : Nat) : Option Nat := if 48 ≤ x ∧ x ≤ 57 then some (x - 48) else none
def pz_vs (k x : Nat) : Option Nat :=
  if k = 99 then (if 97 ≤ x ∧ x ≤ 102 then some x else none) else
  if k = 104 then (if 97 ≤ x ∧ x ≤ 102 then some (x - 87) else pz_dg x) else
  if k = 100 then pz_dg x else if x = k then some x else none
def pz_sg (c : Nat → Nat) (k po : Nat) : pz_R Nat := match pz_vs k (c po) with | some v => .inr (v, po + 1) | none => .inl po
def pz_nm (c : Nat → Nat) (po : Nat) : pz_R Nat := match pz_dg (c po) with
  | none => .inl po
  | some v => match pz_dg (c (po + 1)) with | some w => .inr (10 * v + w, po + 2) | none => .inr (v, po + 1)
def pz_pt (c : Nat → Nat) (k po : Nat) : pz_R Nat := if k = 110 then pz_nm c po else pz_sg c k po
def pz_fm (c : Nat → Nat) : List Nat → Nat → pz_R (List Nat)
  | [], po => .inr ([], po)
  | k :: l, po => match pz_pt c k po with
    | .inl e => .inl e
    | .inr q => match pz_fm c l q.2 with | .inl e => .inl e | .inr r => .inr (q.1 :: r.1, r.2)
def pz_W (i : Nat) : List Nat := match i with
  | 0 => [110, 101, 119, 32] | 1 => [112, 117, 116, 32] | 2 => [116, 97, 107, 101, 32] | 3 => [116, 117, 114, 110, 32] | 4 => [115, 119, 97, 112, 32] | 5 => [102, 105, 108, 108] | _ => [100, 114, 111, 112, 32]
def pz_F (i : Nat) : List Nat := match i with
  | 0 => [99, 104, 104, 104, 104] | 1 => [110, 64, 100, 100] | 2 => [110] | 3 => [110, 42, 100] | 4 => [110, 38, 110] | 5 => [] | _ => [110]
/-- the word that a command's first two characters choose -/
def pz_kw (c : Nat → Nat) (po : Nat) : Nat :=
  if c po = 110 then 0 else if c po = 112 then 1 else if c po = 116 then (if c (po + 1) = 117 then 3 else 2) else if c po = 115 then 4 else if c po = 100 then 6 else 5
def pz_C (c : Nat → Nat) (po : Nat) : pz_R (Nat × List Nat) :=
  if pz_lt c (pz_W (pz_kw c po)) po = (pz_W (pz_kw c po)).length then
    (match pz_fm c (pz_F (pz_kw c po)) (po + (pz_W (pz_kw c po)).length) with | .inl e => .inl e | .inr q => .inr ((pz_kw c po, q.1), q.2))
  else .inl (po + pz_lt c (pz_W (pz_kw c po)) po)
def pz_A (c : Nat → Nat) (L : Nat) : Nat → Nat → Nat ⊕ List (Nat × List Nat)
  | 0, po => .inl po
  | f + 1, po => match pz_C c po with
    | .inl e => .inl e
    | .inr q => if q.2 = L then .inr [q.1] else if c q.2 = 59 then (match pz_A c L f (q.2 + 1) with | .inl e => .inl e | .inr l => .inr (q.1 :: l)) else .inl q.2
-- facts of the text
theorem pz_c_lt {tx : Nat → Nat} {L i : Nat} (h : i < L) : pz_c tx L i = tx i := if_pos h
theorem pz_c_ge {tx : Nat → Nat} {L i : Nat} (h : L ≤ i) : pz_c tx L i = 70000 := if_neg (by omega)
theorem pz_lt_of (c : Nat → Nat) : ∀ (l : List Nat) (po i : Nat), (∀ j, j < i → l[j]? = some (c (po + j))) → (l.length ≤ i ∨ l[i]? ≠ some (c (po + i))) → i ≤ l.length → pz_lt c l po = i
  | [], po, i, _, _, h => by have : i = 0 := by simpa using h
                             subst this; rfl
  | a :: l, po, 0, _, h, _ => by
    unfold pz_lt
    rcases h with h | h
    · simp at h
    · rw [if_neg (fun q => h (by rw [Nat.add_zero, q]; rfl))]
  | a :: l, po, i + 1, h1, h2, h3 => by
    have a0 := h1 0 (by omega)
    have a0 : c po = a := by
      have : some a = some (c (po + 0)) := a0
      exact (Option.some.inj this).symm
    unfold pz_lt
    rw [if_pos a0, pz_lt_of c l (po + 1) i (fun j hj => by
      have := h1 (j + 1) (by omega)
      rw [show po + 1 + j = po + (j + 1) by omega]
      exact this) (by
      rcases h2 with h2 | h2
      · left; simp at h2; exact h2
      · right
        rw [show po + 1 + i = po + (i + 1) by omega]
        exact h2) (by simp at h3; exact h3)]
    omega
theorem pz_lt_le (c : Nat → Nat) : ∀ (l : List Nat) (po : Nat), pz_lt c l po ≤ l.length
  | [], _ => Nat.le_refl _
  | a :: l, po => by
    unfold pz_lt
    have := pz_lt_le c l (po + 1)
    split
    · simp; omega
    · exact Nat.zero_le _
theorem pz_lt_L {tx : Nat → Nat} {L : Nat} : ∀ (l : List Nat) (po : Nat), (∀ x, x ∈ l → x < 128) → po ≤ L → po + pz_lt (pz_c tx L) l po ≤ L
  | [], _, _, h => h
  | a :: l, po, h1, h => by
    unfold pz_lt
    split
    · rename_i e
      have : po < L := by
        by_cases z : po < L
        · exact z
        · rw [pz_c_ge (by omega)] at e
          have := h1 a (List.mem_cons_self)
          omega
      have := pz_lt_L (tx := tx) l (po + 1) (fun x hx => h1 x (List.mem_cons_of_mem _ hx)) this
      omega
    · exact h
theorem pz_kw_7 (c : Nat → Nat) (po : Nat) : pz_kw c po < 7 := by
  unfold pz_kw
  repeat' split
  all_goals omega
theorem pz_W_128 : ∀ i, i < 7 → ∀ x, x ∈ pz_W i → x < 128 := by decide
theorem pz_W_len : ∀ i, i < 7 → 4 ≤ (pz_W i).length ∧ (pz_W i).length ≤ 5 := by decide
theorem pz_F_len : ∀ i, i < 7 → (pz_F i).length ≤ 5 := by decide
/-- the word that stands there wholly is the chosen one -/
theorem pz_full {c : Nat → Nat} {po : Nat} : ∀ i, i < 7 → pz_lt c (pz_W i) po = (pz_W i).length → pz_kw c po = i := by
  intro i hi h
  have key : ∀ a b l, pz_lt c (a :: b :: l) po = (a :: b :: l).length → c po = a ∧ c (po + 1) = b := fun a b l h => by
    have l1 := pz_lt_le c l (po + 1 + 1)
    unfold pz_lt at h
    by_cases z : c po = a
    · rw [if_pos z] at h
      unfold pz_lt at h
      by_cases z2 : c (po + 1) = b
      · exact ⟨z, z2⟩
      · rw [if_neg z2] at h; simp at h
    · rw [if_neg z] at h; simp at h
  match i, hi, h with
  | 0, _, h => obtain ⟨a, b⟩ := key _ _ _ h; unfold pz_kw; simp [a]
  | 1, _, h => obtain ⟨a, b⟩ := key _ _ _ h; unfold pz_kw; simp [a]
  | 2, _, h => obtain ⟨a, b⟩ := key _ _ _ h; unfold pz_kw; simp [a, b]
  | 3, _, h => obtain ⟨a, b⟩ := key _ _ _ h; unfold pz_kw; simp [a, b]
  | 4, _, h => obtain ⟨a, b⟩ := key _ _ _ h; unfold pz_kw; simp [a]
  | 5, _, h => obtain ⟨a, b⟩ := key _ _ _ h; unfold pz_kw; simp [a]
  | 6, _, h => obtain ⟨a, b⟩ := key _ _ _ h; unfold pz_kw; simp [a]
def pz_mx (c : Nat → Nat) (po : Nat) : Nat → Nat | 0 => 0 | n + 1 => max (pz_mx c po n) (pz_lt c (pz_W n) po)
/-- no word stands there: the longest beginning is the chosen word's -/
theorem pz_long (c : Nat → Nat) (po : Nat) : pz_mx c po 7 = pz_lt c (pz_W (pz_kw c po)) po := by
  have z0 : ∀ a l, c po ≠ a → pz_lt c (a :: l) po = 0 := fun a l h => by unfold pz_lt; rw [if_neg h]
  have z1 : ∀ a b l, c po = a → c (po + 1) ≠ b → pz_lt c (a :: b :: l) po = 1 := fun a b l h h2 => by unfold pz_lt; rw [if_pos h]; unfold pz_lt; rw [if_neg h2]
  have g1 : ∀ a l, c po = a → 1 ≤ pz_lt c (a :: l) po := fun a l h => by unfold pz_lt; rw [if_pos h]; omega
  show max (max (max (max (max (max (max 0 (pz_lt c (pz_W 0) po)) (pz_lt c (pz_W 1) po)) (pz_lt c (pz_W 2) po)) (pz_lt c (pz_W 3) po)) (pz_lt c (pz_W 4) po)) (pz_lt c (pz_W 5) po)) (pz_lt c (pz_W 6) po) = _
  have e0 : c po ≠ 110 → pz_lt c (pz_W 0) po = 0 := z0 _ _
  have e1 : c po ≠ 112 → pz_lt c (pz_W 1) po = 0 := z0 _ _
  have e2 : c po ≠ 116 → pz_lt c (pz_W 2) po = 0 := z0 _ _
  have e3 : c po ≠ 116 → pz_lt c (pz_W 3) po = 0 := z0 _ _
  have e4 : c po ≠ 115 → pz_lt c (pz_W 4) po = 0 := z0 _ _
  have e5 : c po ≠ 102 → pz_lt c (pz_W 5) po = 0 := z0 _ _
  have e6 : c po ≠ 100 → pz_lt c (pz_W 6) po = 0 := z0 _ _
  unfold pz_kw
  by_cases h0 : c po = 110
  · rw [if_pos h0, e1 (by omega), e2 (by omega), e3 (by omega), e4 (by omega), e5 (by omega), e6 (by omega)]; omega
  · rw [if_neg h0, e0 h0]
    by_cases h1 : c po = 112
    · rw [if_pos h1, e2 (by omega), e3 (by omega), e4 (by omega), e5 (by omega), e6 (by omega)]; omega
    · rw [if_neg h1, e1 h1]
      by_cases h2 : c po = 116
      · rw [if_pos h2, e4 (by omega), e5 (by omega), e6 (by omega)]
        by_cases h3 : c (po + 1) = 117
        · have a := z1 116 97 [107, 101, 32] h2 (by omega)
          have b := g1 116 [117, 114, 110, 32] h2
          rw [if_pos h3]
          have a' : pz_lt c (pz_W 2) po = 1 := a
          have b' : 1 ≤ pz_lt c (pz_W 3) po := b
          omega
        · have a := z1 116 117 [114, 110, 32] h2 h3
          have b := g1 116 [97, 107, 101, 32] h2
          rw [if_neg h3]
          have a' : pz_lt c (pz_W 3) po = 1 := a
          have b' : 1 ≤ pz_lt c (pz_W 2) po := b
          omega
      · rw [if_neg h2, e2 h2, e3 h2]
        by_cases h4 : c po = 115
        · rw [if_pos h4, e5 (by omega), e6 (by omega)]; omega
        · rw [if_neg h4, e4 h4]
          by_cases h6 : c po = 100
          · rw [if_pos h6, e5 (by omega)]; omega
          · rw [if_neg h6, e6 h6]; omega
-- strings
def st_I (h : jx_H) (w : Nat) (l : List Nat) : Prop := ∃ b, h.1 w = some (20, [.ref b, .int 0]) ∧ h.1 b = some (js_bs l) ∧ (∀ x, x ∈ l → x < 128) ∧ l.length < 10
theorem st_n : ∀ n, n < 10 → (nI n) >>> ((0 : Int32) &&& 31) = nI n := by decide +kernel
theorem st_ch : ∀ x, x < 128 → ((nI x &&& 255).toUInt32 % 65536).toInt32 = nI x ∧ 0 ≤ nI x ∧ nI x < 65536 := by decide +kernel
section ST
variable {h : jx_H} {w : Nat} {l : List Nat}
theorem st_is (S : st_I h w l) (F : jx_R) : jx_is h w 20 F = F := by obtain ⟨b, h1, _⟩ := S; exact jx_is_e h1 F
theorem m_248 (S : st_I h w l) : jx_A 248 [.ref w] h = some (.inl (some (.int (nI l.length))), h) := by
  obtain ⟨b, h1, h2, h3, h4⟩ := S
  have e : jx_A 250 [.ref w] h = some (.inl (some (.int 0)), h) := by rw [a_250, jx_gI_e h1 rfl, if_pos (by decide)]
  rw [a_248, jx_gA_e h1 rfl, jx_sz_e h2 (by decide), jx_is_e h1, jx_cI_e e]
  show (some (.inl (some (.int (nI (l.map fun n => Value.int (nI n)).length >>> (0 &&& 31)))), h) : jx_R) = _
  rw [List.length_map, st_n _ h4]
theorem m_249 (S : st_I h w l) {k x : Nat} (hk : l[k]? = some x) : jx_A 249 [.ref w, .int (nI k)] h = some (.inl (some (.int (nI x))), h) := by
  obtain ⟨b, h1, h2, h3, h4⟩ := S
  have kl : k < l.length := (List.getElem?_eq_some_iff.mp hk).1
  have hx := st_ch x (h3 x (List.mem_of_getElem? hk))
  have e1 : jx_A 251 [.ref w] h = some (.inl (some (.int 1)), h) := by rw [a_251, jx_gI_e h1 rfl, if_pos rfl]
  have e2 : jx_A 254 [.int (nI k), .int (nI l.length), jx_j] h = some (.inl (some (.int (nI k))), h) := by rw [a_254, if_neg (nI_pos (by omega)), if_pos (nI_lt kl (by omega))]
  have e3 : jx_A 252 [.int (nI k), .int (nI l.length)] h = some (.inl none, h) := by rw [a_252, jx_cI_e e2]
  have e4 : jx_A 253 [.ref b, .int (nI k)] h = some (.inl (some (.int (nI x))), h) := by
    rw [a_253, jx_sz_e h2 (by decide)]
    show jx_cV jx_A 252 [.int (nI k), .int (nI (l.map fun n => Value.int (nI n)).length)] h _ = _
    rw [List.length_map, jx_cV_e e3, jx_lI_e h2 (nI_pos' (by omega)) (x := nI x) (by rw [nI_clamp (by omega), List.getElem?_map, hk]; rfl), hx.1, if_pos hx.2]
  rw [a_249, jx_is_e h1, jx_cI_e e1, if_neg (by decide), jx_gA_e h1 rfl, jx_cI_e e4, if_pos hx.2]
end ST
section SC
variable {xs : List Int32} {h : jx_H} {s tl po cc : Nat} {tx : Nat → Nat} {kw : Nat → Nat} {va : Nat → Nat → Int32}
theorem sc_is (G : sc_I h s tl po cc tx kw va) (F : jx_R) : jx_is h s 6 F = F := jx_is_e G.1 F
theorem sc_0 (G : sc_I h s tl po cc tx kw va) (F : Nat → jx_R) : jx_gA h s 6 0 F = F (s + 1) := jx_gA_e G.1 rfl F
theorem sc_1 (G : sc_I h s tl po cc tx kw va) (F : Int32 → jx_R) : jx_gI h s 6 1 F = F (nI tl) := jx_gI_e G.1 rfl F
theorem sc_2 (G : sc_I h s tl po cc tx kw va) (F : Int32 → jx_R) : jx_gI h s 6 2 F = F (nI po) := jx_gI_e G.1 rfl F
theorem sc_3 (G : sc_I h s tl po cc tx kw va) (F : Nat → jx_R) : jx_gA h s 6 3 F = F (s + 2) := jx_gA_e G.1 rfl F
theorem sc_4 (G : sc_I h s tl po cc tx kw va) (F : Int32 → jx_R) : jx_gI h s 6 4 F = F (nI cc) := jx_gI_e G.1 rfl F
theorem sc_ch (G : sc_I h s tl po cc tx kw va) {i : Nat} (hi : i < 60) (F : Int32 → jx_R) : jx_lI h (s + 1) 101 (nI i) F = F (nI (tx i)) := mz_lI G.2.1 hi (by decide) rfl F
theorem sc_sub {h' : jx_H} {tl' po' cc' : Nat} (G : sc_I h s tl po cc tx kw va) (e : mz_eq s (s + 1) h h') (e1 : h'.1 s = some (6, [.ref (s + 1), .int (nI tl'), .int (nI po'), .ref (s + 2), .int (nI cc')])) (h1 : tl' ≤ 60) (h2 : po' ≤ 60) (h3 : cc' ≤ 12) : sc_I h' s tl' po' cc' tx kw va := by
  obtain ⟨g1, g2, g3, g4, g5, g6, g7, g8, g9⟩ := G
  exact ⟨e1, mz_eq_at e (by omega) g2, mz_eq_at e (by omega) g3, fun i hi => ⟨mz_eq_at e (by omega) (g4 i hi).1, mz_eq_at e (by omega) (g4 i hi).2.1, (g4 i hi).2.2⟩, g5, h1, h2, h3, g9⟩
/-- the position is written -/
theorem sc_pp (G : sc_I h s tl po cc tx kw va) {v : Nat} (hv : v ≤ 60) : ∃ h', (∀ F, jx_pt h s 6 2 (.int (nI v)) F = F h') ∧ sc_I h' s tl v cc tx kw va ∧ mz_eq s (s + 27) h h' := by
  refine ⟨_, fun F => jx_pt_e G.1 G.2.2.2.2.2.2.2.2 (by show 2 < 5; decide) F, sc_sub G (mz_eq_st (by omega) (by omega)) mz_set_e G.2.2.2.2.2.1 hv G.2.2.2.2.2.2.2.1, mz_eq_st (by omega) (by omega)⟩
theorem sc_pcc (G : sc_I h s tl po cc tx kw va) {v : Nat} (hv : v ≤ 12) : ∃ h', (∀ F, jx_pt h s 6 4 (.int (nI v)) F = F h') ∧ sc_I h' s tl po v tx kw va ∧ mz_eq s (s + 27) h h' := by
  refine ⟨_, fun F => jx_pt_e G.1 G.2.2.2.2.2.2.2.2 (by show 4 < 5; decide) F, sc_sub G (mz_eq_st (by omega) (by omega)) mz_set_e G.2.2.2.2.2.1 G.2.2.2.2.2.2.1 hv, mz_eq_st (by omega) (by omega)⟩
theorem sc_ptl (G : sc_I h s tl po cc tx kw va) : ∃ h', (∀ F, jx_pt h s 6 1 (.int 0) F = F h') ∧ sc_I h' s 0 po cc tx kw va ∧ mz_eq s (s + 27) h h' := by
  refine ⟨_, fun F => jx_pt_e G.1 G.2.2.2.2.2.2.2.2 (by show 1 < 5; decide) F, sc_sub G (mz_eq_st (by omega) (by omega)) mz_set_e (by omega) G.2.2.2.2.2.2.1 G.2.2.2.2.2.2.2.1, mz_eq_st (by omega) (by omega)⟩
theorem m_55 (G : sc_I h s tl po cc tx kw va) {w : Nat} {l : List Nat} (S : st_I h w l) (hpo : po ≤ tl) : jx_A 55 [.ref s, .ref w] h = some (.inl (some (.int (nI (pz_lt (pz_c tx tl) l po)))), h) := by
  have htl : tl ≤ 60 := G.2.2.2.2.2.1
  obtain ⟨b, s1, s2, s3, s4⟩ := id S
  rw [a_55]
  refine mz_inv (γ := Unit) (fun i _ => jx_E 55 2 [.ref s, .ref w, .int (nI i)] [] h) (fun i _ => ∀ j, j < i → l[j]? = some (pz_c tx tl (po + j))) l.length (fun X => X = some (.inl (some (.int (nI (pz_lt (pz_c tx tl) l po)))), h)) ?_ ?_ 0 () (Nat.zero_le _) (fun j hj => absurd hj (Nat.not_lt_zero _))
  · intro _ I
    show jx_E 55 2 _ _ _ = _
    rw [b_55_2, st_is S, jx_cI_e (m_248 S), if_pos (nI_le (Nat.le_refl _) (by omega)), pz_lt_of _ l po l.length I (Or.inl (Nat.le_refl _)) (Nat.le_refl _)]
  · intro i _ hi I
    obtain ⟨x, hx⟩ : ∃ x, l[i]? = some x := ⟨_, List.getElem?_eq_getElem hi⟩
    have hx128 := s3 x (List.mem_of_getElem? hx)
    by_cases c1 : tl ≤ po + i
    · left
      show jx_E 55 2 _ _ _ = _
      rw [b_55_2, st_is S, jx_cI_e (m_248 S), if_neg (nI_ge hi (by omega)), sc_2 G, sc_1 G, nI_add, if_pos (nI_le c1 (by omega)), pz_lt_of _ l po i I (Or.inr (by rw [hx, pz_c_ge c1]; intro q; have := Option.some.inj q; omega)) (by omega)]
    · have c2 : po + i < tl := by omega
      have E : jx_E 55 2 [.ref s, .ref w, .int (nI i)] [] h = if nI (tx (po + i)) = nI x then jx_E 55 2 [.ref s, .ref w, .int (nI (i + 1))] [] h else some (.inl (some (.int (nI i))), h) := by
        rw [b_55_2, st_is S, jx_cI_e (m_248 S), if_neg (nI_ge hi (by omega)), sc_2 G, sc_1 G, nI_add, if_neg (nI_ge c2 (by omega)), sc_0 G, sc_2 G, nI_add, sc_ch G (by omega), st_is S, jx_cI_e (m_249 S hx), nI_1]
      have tlt := G.2.2.2.2.1 (po + i)
      by_cases z : tx (po + i) = x
      · right
        refine ⟨(), fun j hj => ?_, ?_⟩
        · by_cases y : j = i
          · subst y; rw [hx, pz_c_lt c2, z]
          · exact I j (by omega)
        · show jx_E 55 2 _ _ _ = jx_E 55 2 _ _ _
          rw [E, if_pos (by rw [z])]
      · left
        show jx_E 55 2 _ _ _ = _
        rw [E, if_neg (fun q => z ((nI_eq (by omega) (by omega)).mp q)), pz_lt_of _ l po i I (Or.inr (by rw [hx, pz_c_lt c2]; intro q; exact z (Option.some.inj q).symm)) (by omega)]
theorem kw_st (K : mz_K xs h) : ∀ i, i < 7 → h.1 (4 + i) = some (21, [.int (nI i), .ref (11 + 2 * i), .ref (12 + 2 * i)]) ∧ st_I h (11 + 2 * i) (pz_W i) ∧ st_I h (12 + 2 * i) (pz_F i) := by
  intro i hi
  match i, hi with
  | 0, _ => exact ⟨K 4 (by decide), ⟨51, K 11 (by decide), K 51 (by decide), by decide, by decide⟩, ⟨52, K 12 (by decide), K 52 (by decide), by decide, by decide⟩⟩
  | 1, _ => exact ⟨K 5 (by decide), ⟨53, K 13 (by decide), K 53 (by decide), by decide, by decide⟩, ⟨54, K 14 (by decide), K 54 (by decide), by decide, by decide⟩⟩
  | 2, _ => exact ⟨K 6 (by decide), ⟨55, K 15 (by decide), K 55 (by decide), by decide, by decide⟩, ⟨56, K 16 (by decide), K 56 (by decide), by decide, by decide⟩⟩
  | 3, _ => exact ⟨K 7 (by decide), ⟨57, K 17 (by decide), K 57 (by decide), by decide, by decide⟩, ⟨58, K 18 (by decide), K 58 (by decide), by decide, by decide⟩⟩
  | 4, _ => exact ⟨K 8 (by decide), ⟨59, K 19 (by decide), K 59 (by decide), by decide, by decide⟩, ⟨60, K 20 (by decide), K 60 (by decide), by decide, by decide⟩⟩
  | 5, _ => exact ⟨K 9 (by decide), ⟨61, K 21 (by decide), K 61 (by decide), by decide, by decide⟩, ⟨62, K 22 (by decide), K 62 (by decide), by decide, by decide⟩⟩
  | 6, _ => exact ⟨K 10 (by decide), ⟨63, K 23 (by decide), K 63 (by decide), by decide, by decide⟩, ⟨64, K 24 (by decide), K 64 (by decide), by decide, by decide⟩⟩
theorem kw_at (K : mz_K xs h) {i : Nat} (hi : i < 7) (F : Nat → jx_R) : jx_lA h 3 113 (nI i) F = F (4 + i) := by
  have k3 : h.1 3 = some (113, [.ref 4, .ref 5, .ref 6, .ref 7, .ref 8, .ref 9, .ref 10]) := K 3 (by decide)
  refine jx_lA_e k3 (nI_pos' (by omega)) ?_ F
  rw [nI_clamp (by omega)]
  match i, hi with
  | 0, _ => rfl
  | 1, _ => rfl
  | 2, _ => rfl
  | 3, _ => rfl
  | 4, _ => rfl
  | 5, _ => rfl
  | 6, _ => rfl
theorem m_54 (K : mz_K xs h) (G : sc_I h s tl po cc tx kw va) (hpo : po ≤ tl) :
    ∃ h' po', po' ≤ tl ∧ sc_I h' s tl po' cc tx kw va ∧ mz_eq s (s + 27) h h' ∧
      ((pz_lt (pz_c tx tl) (pz_W (pz_kw (pz_c tx tl) po)) po = (pz_W (pz_kw (pz_c tx tl) po)).length ∧ po' = po + (pz_W (pz_kw (pz_c tx tl) po)).length ∧ jx_A 54 [.ref s] h = some (.inl (some (.ref (4 + pz_kw (pz_c tx tl) po))), h')) ∨
       (pz_lt (pz_c tx tl) (pz_W (pz_kw (pz_c tx tl) po)) po ≠ (pz_W (pz_kw (pz_c tx tl) po)).length ∧ po' = po + pz_lt (pz_c tx tl) (pz_W (pz_kw (pz_c tx tl) po)) po ∧ jx_A 54 [.ref s] h = some (.inl (some .null), h'))) := by
  have htl : tl ≤ 60 := G.2.2.2.2.2.1
  have ns : jx_nc ≤ s := G.2.2.2.2.2.2.2.2
  have k3 : h.1 3 = some (113, [.ref 4, .ref 5, .ref 6, .ref 7, .ref 8, .ref 9, .ref 10]) := K 3 (by decide)
  rw [a_54]
  refine mz_inv (γ := Value × Value) (fun i z => jx_E 54 4 [.ref s, .int (nI (pz_mx (pz_c tx tl) po i)), .int (nI i), z.1, z.2] [] h) (fun i _ => ∀ j, j < i → pz_lt (pz_c tx tl) (pz_W j) po ≠ (pz_W j).length) 7
    (fun X => ∃ h' po', po' ≤ tl ∧ sc_I h' s tl po' cc tx kw va ∧ mz_eq s (s + 27) h h' ∧
      ((pz_lt (pz_c tx tl) (pz_W (pz_kw (pz_c tx tl) po)) po = (pz_W (pz_kw (pz_c tx tl) po)).length ∧ po' = po + (pz_W (pz_kw (pz_c tx tl) po)).length ∧ X = some (.inl (some (.ref (4 + pz_kw (pz_c tx tl) po))), h')) ∨
       (pz_lt (pz_c tx tl) (pz_W (pz_kw (pz_c tx tl) po)) po ≠ (pz_W (pz_kw (pz_c tx tl) po)).length ∧ po' = po + pz_lt (pz_c tx tl) (pz_W (pz_kw (pz_c tx tl) po)) po ∧ X = some (.inl (some .null), h')))) ?_ ?_ 0 (jx_j, jx_j) (by decide) (fun j hj => absurd hj (Nat.not_lt_zero _))
  · rintro ⟨v1, v2⟩ I
    have l := pz_lt_L (tx := tx) (L := tl) (pz_W (pz_kw (pz_c tx tl) po)) po (pz_W_128 _ (pz_kw_7 _ _)) hpo
    obtain ⟨h1, x1, G1, t1⟩ := sc_pp G (v := po + pz_lt (pz_c tx tl) (pz_W (pz_kw (pz_c tx tl) po)) po) (by omega)
    refine ⟨h1, _, l, G1, t1, Or.inr ⟨I _ (pz_kw_7 _ _), rfl, ?_⟩⟩
    show jx_E 54 4 _ _ _ = _
    rw [b_54_4, jx_sz_e k3 (by decide), if_pos (by decide), sc_2 G, nI_add, pz_long, x1]
  · rintro i ⟨v1, v2⟩ hi I
    obtain ⟨k1, kW, kF⟩ := kw_st K i hi
    have W5 := pz_W_len i hi
    have ll := pz_lt_le (pz_c tx tl) (pz_W i) po
    have E : jx_E 54 4 [.ref s, .int (nI (pz_mx (pz_c tx tl) po i)), .int (nI i), v1, v2] [] h = if nI (pz_lt (pz_c tx tl) (pz_W i) po) = nI (pz_W i).length then jx_pt h s 6 2 (.int (nI (po + pz_lt (pz_c tx tl) (pz_W i) po))) (fun h15 => jx_lA h15 3 113 (nI i) (fun a16 => some (.inl (some (.ref a16)), h15))) else jx_cI jx_A 246 [.int (nI (pz_mx (pz_c tx tl) po i)), .int (nI (pz_lt (pz_c tx tl) (pz_W i) po))] h (fun y12 h11 => jx_E 54 4 [.ref s, .int y12, .int (nI (i + 1)), .ref (11 + 2 * i), .int (nI (pz_lt (pz_c tx tl) (pz_W i) po))] [] h11) := by
      rw [b_54_4, jx_sz_e k3 (by decide), if_neg (show ¬ nI [Value.ref 4, .ref 5, .ref 6, .ref 7, .ref 8, .ref 9, .ref 10].length ≤ nI i from nI_ge (b := 7) hi (by decide)), kw_at K hi, jx_gA_e k1 rfl, sc_is G, jx_cI_e (m_55 G kW hpo), st_is kW, jx_cI_e (m_248 kW), sc_2 G, nI_add, nI_1]
    by_cases z : pz_lt (pz_c tx tl) (pz_W i) po = (pz_W i).length
    · left
      have l := pz_lt_L (tx := tx) (L := tl) (pz_W i) po (pz_W_128 _ hi) hpo
      obtain ⟨h1, x1, G1, t1⟩ := sc_pp G (v := po + pz_lt (pz_c tx tl) (pz_W i) po) (by omega)
      have K1 := mz_K_eq K t1 ns
      have ke := pz_full i hi z
      refine ⟨h1, _, l, G1, t1, Or.inl ⟨by rw [ke]; exact z, by rw [ke, z], ?_⟩⟩
      show jx_E 54 4 _ _ _ = _
      rw [E, if_pos (by rw [z]), x1, kw_at K1 hi, ke]
    · right
      refine ⟨(.ref (11 + 2 * i), .int (nI (pz_lt (pz_c tx tl) (pz_W i) po))), fun j hj => ?_, ?_⟩
      · by_cases y : j = i
        · subst y; exact z
        · exact I j (by omega)
      · show jx_E 54 4 _ _ _ = jx_E 54 4 [.ref s, .int (nI (max (pz_mx (pz_c tx tl) po i) (pz_lt (pz_c tx tl) (pz_W i) po))), .int (nI (i + 1)), .ref (11 + 2 * i), .int (nI (pz_lt (pz_c tx tl) (pz_W i) po))] [] h
        have mxb : ∀ n, n ≤ 7 → pz_mx (pz_c tx tl) po n ≤ 5 := by
          intro n
          induction n with
          | zero => intro _; exact Nat.zero_le _
          | succ n ih =>
            intro hn
            have a := ih (by omega)
            have b := pz_lt_le (pz_c tx tl) (pz_W n) po
            have c := pz_W_len n (by omega)
            exact Nat.max_le.mpr ⟨a, by omega⟩
        have b1 := mxb i (by omega)
        rw [E, if_neg (fun q => z ((nI_eq (by omega) (by omega)).mp q))]
        have e246 : jx_A 246 [.int (nI (pz_mx (pz_c tx tl) po i)), .int (nI (pz_lt (pz_c tx tl) (pz_W i) po))] h = some (.inl (some (.int (nI (max (pz_mx (pz_c tx tl) po i) (pz_lt (pz_c tx tl) (pz_W i) po))))), h) := by
          rw [a_246]
          by_cases y : pz_mx (pz_c tx tl) po i < pz_lt (pz_c tx tl) (pz_W i) po
          · rw [if_pos (nI_lt y (by omega)), Nat.max_eq_right (by omega)]
          · rw [if_neg (nI_nlt (by omega) (by omega)), Nat.max_eq_left (by omega)]
        rw [jx_cI_e e246]
end SC
end JX
