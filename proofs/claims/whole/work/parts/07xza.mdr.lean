/-! The other object reads a command. -/
section JX
/-- what is still to be read, and what it will have been -/
def rs_S (c : Nat → Nat) (T : pz_R (List Nat)) (po : Nat) (mf : Bool) (l acc : List Nat) : Prop := match mf with
  | true => T = .inl po
  | false => T = match pz_fm c l po with | .inl e => .inl e | .inr r => .inr (acc ++ r.1, r.2)
theorem rs_n (c : Nat → Nat) {T : pz_R (List Nat)} {po : Nat} {k : Nat} {l acc : List Nat} (H : rs_S c T po false (k :: l) acc) : match pz_pt c k po with
    | .inl e => rs_S c T e true l (acc ++ [0])
    | .inr q => rs_S c T q.2 false l (acc ++ [q.1]) := by
  have H : T = match pz_fm c (k :: l) po with | .inl e => .inl e | .inr r => .inr (acc ++ r.1, r.2) := H
  rw [pz_fm_c] at H
  cases e : pz_pt c k po with
  | inl e2 => rw [e] at H; exact H
  | inr q =>
    rw [e] at H
    dsimp only at H ⊢
    show T = match pz_fm c l q.2 with | .inl e => .inl e | .inr r => .inr (acc ++ [q.1] ++ r.1, r.2)
    cases e2 : pz_fm c l q.2 with
    | inl e3 => rw [e2] at H; exact H
    | inr r => rw [e2] at H; dsimp only at H ⊢; rw [H, List.append_assoc]; rfl
section RK
variable {xs : List Int32} {h0 h : jx_H} {y : Nat} {S : Nat → Nat} {th : Int32} {R : ro_R} {po cn : Nat} {mf : Bool} {cm : Nat → Int32} {T : pz_R (List Nat)} {l acc : List Nat}
/-- a number, a digit or a sign has been read -/
def rx_V (h0 : jx_H) (y : Nat) (S : Nat → Nat) (th : Int32) (R : ro_R) (cm : Nat → Int32) (cn : Nat) (T : pz_R (List Nat)) (mf : Bool) (l acc : List Nat) (X : jx_R) : Prop :=
  ∃ z v h' po' mf', X = some (.inl (some (.int z)), h') ∧ rk_J h0 h' y S th R po' mf' cm cn ∧ (mf' = false → mf = false ∧ z = nI v ∧ v < 128) ∧ rs_S (pz_c R.2.2.2.2.1 (ro_il R)) T po' mf' l (acc ++ [v])
theorem rx_n (J : rk_J h0 h y S th R po mf cm cn) (hL : ro_il R ≤ 60) (ht : ∀ i, i < ro_il R → R.2.2.2.2.1 i < 65536) (H : rs_S (pz_c R.2.2.2.2.1 (ro_il R)) T po mf (110 :: l) acc) : rx_V h0 y S th R cm cn T mf l acc (jx_A 231 [.ref y] h) := by
  cases mf with
  | true =>
    obtain ⟨h1, x1, J1⟩ := m_231m J hL ht
    exact ⟨0, 0, h1, po, true, x1, J1, fun q => (by cases q), H⟩
  | false =>
    have n := rs_n _ H
    have m := m_231 J hL ht
    rw [show pz_pt (pz_c R.2.2.2.2.1 (ro_il R)) 110 po = pz_nm (pz_c R.2.2.2.2.1 (ro_il R)) po from rfl] at n
    cases e : pz_nm (pz_c R.2.2.2.2.1 (ro_il R)) po with
    | inl e2 =>
      rw [e] at n m
      obtain ⟨h1, x1, J1⟩ := m
      exact ⟨0, 0, h1, e2, true, x1, J1, fun q => (by cases q), n⟩
    | inr q =>
      rw [e] at n m
      obtain ⟨h1, x1, J1, l1⟩ := m
      exact ⟨_, q.1, h1, q.2, false, x1, J1, fun _ => ⟨rfl, rfl, l1⟩, n⟩
theorem rx_d (J : rk_J h0 h y S th R po mf cm cn) (hL : ro_il R ≤ 60) (ht : ∀ i, i < ro_il R → R.2.2.2.2.1 i < 65536) (b : Bool) (H : rs_S (pz_c R.2.2.2.2.1 (ro_il R)) T po mf ((bif b then 104 else 100) :: l) acc) : rx_V h0 y S th R cm cn T mf l acc (jx_A 230 [.ref y, .int (zL b)] h) := by
  cases mf with
  | true =>
    obtain ⟨h1, x1, J1⟩ := m_230m J hL ht (zL b)
    exact ⟨0, 0, h1, po, true, x1, J1, fun q => (by cases q), H⟩
  | false =>
    have n := rs_n _ H
    have m := m_230 J hL ht b
    have e0 : pz_pt (pz_c R.2.2.2.2.1 (ro_il R)) (bif b then 104 else 100) po = match pz_dl b (pz_c R.2.2.2.2.1 (ro_il R) po) with | some v => .inr (v, po + 1) | none => .inl po := by
      cases b <;> rfl
    rw [e0] at n
    cases e : pz_dl b (pz_c R.2.2.2.2.1 (ro_il R) po) with
    | none =>
      rw [e] at n m
      obtain ⟨h1, x1, J1⟩ := m
      exact ⟨0, 0, h1, po, true, x1, J1, fun q => (by cases q), n⟩
    | some v =>
      rw [e] at n m
      obtain ⟨h1, x1, J1, l1, -⟩ := m
      exact ⟨_, v, h1, po + 1, false, x1, J1, fun _ => ⟨rfl, rfl, by omega⟩, n⟩
/-- a sign is skipped -/
theorem rx_k (K : mz_K xs h0) (J : rk_J h0 h y S th R po mf cm cn) (hL : ro_il R ≤ 60) (ht : ∀ i, i < ro_il R → R.2.2.2.2.1 i < 65536) {w k : Nat} (hk : k < 99) (W : ∀ h, mz_K xs h → st_I h w [k]) (H : rs_S (pz_c R.2.2.2.2.1 (ro_il R)) T po mf (k :: l) acc) :
    ∃ v h' po' mf', jx_A 228 [.ref y, .ref w] h = some (.inl none, h') ∧ rk_J h0 h' y S th R po' mf' cm cn ∧ (mf' = false → mf = false ∧ v = k) ∧ rs_S (pz_c R.2.2.2.2.1 (ro_il R)) T po' mf' l (acc ++ [v]) := by
  cases mf with
  | true => exact ⟨0, h, po, true, m_228m K J W, J, fun q => (by cases q), H⟩
  | false =>
    have n := rs_n _ H
    obtain ⟨h1, x1, J1⟩ := m_228 K J hL ht W
    have e0 : pz_pt (pz_c R.2.2.2.2.1 (ro_il R)) k po = if pz_c R.2.2.2.2.1 (ro_il R) po = k then .inr (k, po + 1) else .inl po := by
      unfold pz_pt pz_sg pz_vs
      rw [if_neg (by omega), if_neg (by omega), if_neg (by omega), if_neg (by omega)]
      by_cases c : pz_c R.2.2.2.2.1 (ro_il R) po = k
      · rw [if_pos c, if_pos c, c]
      · rw [if_neg c, if_neg c]
    have e1 : pz_lt (pz_c R.2.2.2.2.1 (ro_il R)) [k] po = if pz_c R.2.2.2.2.1 (ro_il R) po = k then 1 else 0 := rfl
    rw [e0] at n
    rw [e1] at J1
    by_cases c : pz_c R.2.2.2.2.1 (ro_il R) po = k
    · rw [if_pos c] at n J1
      exact ⟨k, h1, po + 1, false, x1, J1, fun _ => ⟨rfl, rfl⟩, n⟩
    · rw [if_neg c] at n J1
      exact ⟨0, h1, po, true, x1, J1, fun q => (by cases q), n⟩
/-- a colour -/
theorem pz_99 (c : Nat → Nat) (po : Nat) : pz_pt c 99 po = if 97 ≤ c po ∧ c po ≤ 102 then .inr (c po, po + 1) else .inl po := by
  unfold pz_pt pz_sg pz_vs
  rw [if_neg (by decide), if_pos rfl]
  by_cases q : 97 ≤ c po ∧ c po ≤ 102
  · rw [if_pos q, if_pos q]
  · rw [if_neg q, if_neg q]
theorem m_150b (x : Nat) (h : jx_H) : jx_A 150 [.int (pz_b x)] h = some (.inl (some (.int (if 97 ≤ x ∧ x ≤ 102 then 1 else 0))), h) := by
  by_cases d : x < 65536
  · rw [pz_b_lt d, m_150, ← m_127, m_127x d h]
  · rw [if_neg (by omega), m_150]
    unfold pz_b
    rw [if_neg d]
    rfl
theorem wd_30 : ∀ h, mz_K xs h → st_I h 30 [110, 101, 119, 32] := fun h K => ⟨70, K 30 (by decide), K 70 (by decide), by decide, by decide⟩
theorem wd_31 : ∀ h, mz_K xs h → st_I h 31 [112, 117, 116, 32] := fun h K => ⟨71, K 31 (by decide), K 71 (by decide), by decide, by decide⟩
theorem wd_32 : ∀ h, mz_K xs h → st_I h 32 [64] := fun h K => ⟨72, K 32 (by decide), K 72 (by decide), by decide, by decide⟩
theorem wd_33 : ∀ h, mz_K xs h → st_I h 33 [116, 117, 114, 110, 32] := fun h K => ⟨73, K 33 (by decide), K 73 (by decide), by decide, by decide⟩
theorem wd_34 : ∀ h, mz_K xs h → st_I h 34 [102, 105, 108, 108] := fun h K => ⟨74, K 34 (by decide), K 74 (by decide), by decide, by decide⟩
theorem wd_35 : ∀ h, mz_K xs h → st_I h 35 [42] := fun h K => ⟨75, K 35 (by decide), K 75 (by decide), by decide, by decide⟩
theorem wd_36 : ∀ h, mz_K xs h → st_I h 36 [115, 119, 97, 112, 32] := fun h K => ⟨76, K 36 (by decide), K 76 (by decide), by decide, by decide⟩
theorem wd_37 : ∀ h, mz_K xs h → st_I h 37 [38] := fun h K => ⟨77, K 37 (by decide), K 77 (by decide), by decide, by decide⟩
theorem wd_38 : ∀ h, mz_K xs h → st_I h 38 [116, 97, 107, 101, 32] := fun h K => ⟨78, K 38 (by decide), K 78 (by decide), by decide, by decide⟩
theorem wd_39 : ∀ h, mz_K xs h → st_I h 39 [100, 114, 111, 112, 32] := fun h K => ⟨79, K 39 (by decide), K 79 (by decide), by decide, by decide⟩
/-- what a command's rest says -/
def pz_T (c : Nat → Nat) (i po : Nat) : pz_R (List Nat) := if pz_lt c (pz_W i) po = (pz_W i).length then pz_fm c (pz_F i) (po + (pz_W i).length) else .inl (po + pz_lt c (pz_W i) po)
theorem pz_C_T (c : Nat → Nat) (po : Nat) : pz_C c po = match pz_T c (pz_kw c po) po with | .inl e => .inl e | .inr q => .inr ((pz_kw c po, q.1), q.2) := by
  unfold pz_C pz_T
  by_cases z : pz_lt c (pz_W (pz_kw c po)) po = (pz_W (pz_kw c po)).length
  · rw [if_pos z, if_pos z]
    cases pz_fm c (pz_F (pz_kw c po)) (po + (pz_W (pz_kw c po)).length) <;> rfl
  · rw [if_neg z, if_neg z]
theorem rx_w (K : mz_K xs h0) (J : rk_J h0 h y S th R po false cm cn) (hL : ro_il R ≤ 60) (ht : ∀ i, i < ro_il R → R.2.2.2.2.1 i < 65536) {w i : Nat} (W : ∀ h, mz_K xs h → st_I h w (pz_W i)) :
    ∃ h' po' mf', jx_A 228 [.ref y, .ref w] h = some (.inl none, h') ∧ rk_J h0 h' y S th R po' mf' cm cn ∧ rs_S (pz_c R.2.2.2.2.1 (ro_il R)) (pz_T (pz_c R.2.2.2.2.1 (ro_il R)) i po) po' mf' (pz_F i) [] := by
  obtain ⟨h1, x1, J1⟩ := m_228 K J hL ht W
  have le := pz_lt_le (pz_c R.2.2.2.2.1 (ro_il R)) (pz_W i) po
  unfold pz_T
  by_cases z : pz_lt (pz_c R.2.2.2.2.1 (ro_il R)) (pz_W i) po = (pz_W i).length
  · rw [z, Nat_blt_f (Nat.le_refl _)] at J1
    refine ⟨h1, _, false, x1, J1, ?_⟩
    rw [if_pos z]
    show pz_fm _ _ _ = match pz_fm _ _ _ with | .inl e => .inl e | .inr r => .inr ([] ++ r.1, r.2)
    cases pz_fm (pz_c R.2.2.2.2.1 (ro_il R)) (pz_F i) (po + (pz_W i).length) with
    | inl e => rfl
    | inr q => rfl
  · rw [Nat_blt_t (by omega)] at J1
    refine ⟨h1, _, true, x1, J1, ?_⟩
    rw [if_neg z]
    rfl
/-- the rows of commands below one are as they were -/
def cm_lo (b : Nat) (cm cm' : Nat → Int32) : Prop := ∀ i, i < b → cm' i = cm i
theorem cm_lo_r {b : Nat} {cm : Nat → Int32} : cm_lo b cm cm := fun _ _ => rfl
theorem cm_lo_u {b k : Nat} {cm cm' : Nat → Int32} {v : Int32} (H : cm_lo b cm cm') (hk : b ≤ k) : cm_lo b cm (mz_up cm' k v) := fun i hi => by rw [mz_up_n (by omega)]; exact H i hi
/-- a row says a command -/
def cm_r (cm : Nat → Int32) (b : Nat) (q : Nat × List Nat) : Prop := match q.1 with
  | 0 => cm b = 110 ∧ cm (b + 1) = pz_v q 0 ∧ cm (b + 2) = pz_v q 1 ∧ cm (b + 3) = pz_v q 2 ∧ cm (b + 4) = pz_v q 3 ∧ cm (b + 5) = pz_v q 4
  | 1 => cm b = 112 ∧ cm (b + 1) = pz_v q 0 ∧ cm (b + 2) = pz_v q 2 ∧ cm (b + 3) = pz_v q 3
  | 2 => cm b = 116 ∧ cm (b + 1) = pz_v q 0
  | 3 => cm b = 117 ∧ cm (b + 1) = pz_v q 0 ∧ cm (b + 2) = pz_v q 2
  | 4 => cm b = 115 ∧ cm (b + 1) = pz_v q 0 ∧ cm (b + 2) = pz_v q 2
  | 5 => cm b = 102
  | _ => cm b = 100 ∧ cm (b + 1) = pz_v q 0
/-- a command has been read -/
def rx_C (h0 : jx_H) (y : Nat) (S : Nat → Nat) (th : Int32) (R : ro_R) (cm : Nat → Int32) (cn b : Nat) (r : pz_R (Nat × List Nat)) (X : jx_R) : Prop :=
  ∃ h' po' mf' cm', X = some (.inl none, h') ∧ rk_J h0 h' y S th R po' mf' cm' cn ∧ cm_lo b cm cm' ∧ match r with
    | .inl e => mf' = true ∧ po' = e
    | .inr q => mf' = false ∧ po' = q.2 ∧ cm_r cm' b q.1 ∧ q.1.1 < 7 ∧ ∀ x, x ∈ q.1.2 → x < 128
theorem rx_fin {r : pz_R (Nat × List Nat)} {i b : Nat} {X : jx_R} {cm' : Nat → Int32} {h' : jx_H} {po' : Nat} {mf' : Bool} (hr : r = match T with | .inl e => .inl e | .inr q => .inr ((i, q.1), q.2)) (x : X = some (.inl none, h')) (J : rk_J h0 h' y S th R po' mf' cm' cn) (lo : cm_lo b cm cm') (H : rs_S (pz_c R.2.2.2.2.1 (ro_il R)) T po' mf' [] acc) (hi : i < 7) (row : mf' = false → cm_r cm' b (i, acc) ∧ ∀ x, x ∈ acc → x < 128) : rx_C h0 y S th R cm cn b r X := by
  refine ⟨h', po', mf', cm', x, J, lo, ?_⟩
  cases mf' with
  | true =>
    have H : T = .inl po' := H
    rw [H] at hr
    rw [hr]; exact ⟨rfl, rfl⟩
  | false =>
    have H : T = .inr (acc ++ [], po') := H
    rw [H, List.append_nil] at hr
    rw [hr]
    exact ⟨rfl, rfl, (row rfl).1, hi, (row rfl).2⟩
end RK
end JX
