/-! groups. -/
section JX
/-- all cells of the groups of the first occupied cells -/
noncomputable def sn_m (o : Nat → Option fg_T) (i : Nat) : Int64 := mz_mk (fun c => mz_dc (∃ k, k < i ∧ (o k).isSome = true ∧ mm_re o k c))
theorem sn_0 (o : Nat → Option fg_T) : sn_m o 0 = 0 := mb_ext (fun c hc => by
  unfold sn_m
  rw [mb_mk _ hc, mb_0, mz_dc_f]
  rintro ⟨k, hk, -⟩
  exact absurd hk (Nat.not_lt_zero _))
theorem sn_b {o : Nat → Option fg_T} {i c : Nat} (hc : c < 64) : mb (sn_m o i) c = true ↔ ∃ k, k < i ∧ (o k).isSome = true ∧ mm_re o k c := by
  unfold sn_m
  rw [mb_mk _ hc, mz_dc_iff]
theorem sn_no {o : Nat → Option fg_T} {i : Nat} (e : (o i).isSome = false) : sn_m o (i + 1) = sn_m o i := mb_ext (fun c hc => by
  rw [Bool.eq_iff_iff, sn_b hc, sn_b hc]
  refine ⟨fun ⟨k, a, b, d⟩ => ?_, fun ⟨k, a, b, d⟩ => ⟨k, by omega, b, d⟩⟩
  by_cases z : k = i
  · subst z; rw [e] at b; cases b
  · exact ⟨k, by omega, b, d⟩)
theorem sn_yes {o : Nat → Option fg_T} {i : Nat} (e : (o i).isSome = true) : sn_m o (i + 1) = sn_m o i ||| mm_gk o i := mb_ext (fun c hc => by
  rw [Bool.eq_iff_iff, mb_or, Bool.or_eq_true, sn_b hc, sn_b hc]
  have g : mb (mm_gk o i) c = true ↔ mm_re o i c := by
    unfold mm_gk
    rw [mb_mk _ hc, mm_gb_iff]
  rw [g]
  refine ⟨fun ⟨k, a, b, d⟩ => ?_, fun h => ?_⟩
  · by_cases z : k = i
    · subst z; exact Or.inr d
    · exact Or.inl ⟨k, by omega, b, d⟩
  · rcases h with ⟨k, a, b, d⟩ | h
    · exact ⟨k, by omega, b, d⟩
    · exact ⟨i, by omega, e, h⟩)
theorem sn_fs {o : Nat → Option fg_T} {i : Nat} (hi : i < 64) (e : (o i).isSome = true) : mm_fs o i = !mb (sn_m o i) i := by
  unfold mm_fs
  rw [e, Bool.true_and]
  cases z : mb (sn_m o i) i with
  | true =>
    obtain ⟨k, a, b, d⟩ := (sn_b hi).mp z
    rw [Bool.not_true, mz_dc_f]
    exact fun h => by rw [h k a d] at b; cases b
  | false =>
    rw [Bool.not_false, mz_dc_iff]
    intro d hd r
    cases y : (o d).isSome with
    | false => rfl
    | true => rw [(sn_b hi).mpr ⟨d, hd, y, r⟩] at z; cases z
theorem fs_no {o : Nat → Option fg_T} {i : Nat} (e : (o i).isSome = false) : mm_fs o i = false := by
  unfold mm_fs
  rw [e, Bool.false_and]
def lg_mx (v : Option Nat) (n : Nat) : Nat := match v with | none => n | some v => if v < n then n else v
/-- the largest of the groups of the first cells -/
noncomputable def lg_m (o : Nat → Option fg_T) : Nat → Option Nat
  | 0 => none
  | n + 1 => match o n with
    | none => lg_m o n
    | some _ => some (lg_mx (lg_m o n) (mm_gz o n))
def lg_n (v : Option Nat) : Int32 := match v with | none => -13 | some v => nI v
theorem lg_m_s (o : Nat → Option fg_T) : ∀ n, n ≤ 64 → match lg_m o n with
    | none => ∀ c, c < n → (o c).isSome = false
    | some v => 1 ≤ v ∧ v ≤ 64 ∧ (∀ c, c < n → (o c).isSome = true → mm_gz o c ≤ v) ∧ ∃ c, c < n ∧ (o c).isSome = true ∧ v = mm_gz o c
  | 0, _ => fun c h => absurd h (Nat.not_lt_zero _)
  | n + 1, hn => by
    have ih := lg_m_s o n (by omega)
    obtain ⟨b1, b2⟩ := mm_gz_1 (o := o) (c := n) (by omega)
    show match (match o n with | none => lg_m o n | some _ => some (lg_mx (lg_m o n) (mm_gz o n))) with
      | none => ∀ c, c < n + 1 → (o c).isSome = false
      | some v => 1 ≤ v ∧ v ≤ 64 ∧ (∀ c, c < n + 1 → (o c).isSome = true → mm_gz o c ≤ v) ∧ ∃ c, c < n + 1 ∧ (o c).isSome = true ∧ v = mm_gz o c
    cases e : o n with
    | none =>
      dsimp only
      have no : (o n).isSome = false := by rw [e]; rfl
      revert ih
      cases lg_m o n with
      | none =>
        intro ih c hc
        by_cases z : c = n
        · subst z; exact no
        · exact ih c (by omega)
      | some v =>
        rintro ⟨i1, i2, i3, c0, i4, i5, i6⟩
        refine ⟨i1, i2, fun c hc h => ?_, c0, by omega, i5, i6⟩
        by_cases z : c = n
        · subst z; rw [no] at h; cases h
        · exact i3 c (by omega) h
    | some f =>
      dsimp only
      have yes : (o n).isSome = true := by rw [e]; rfl
      revert ih
      cases lg_m o n with
      | none =>
        intro ih
        refine ⟨b1, b2, fun c hc h => ?_, n, by omega, yes, rfl⟩
        by_cases z : c = n
        · subst z; exact Nat.le_refl _
        · rw [ih c (by omega)] at h; cases h
      | some v =>
        rintro ⟨i1, i2, i3, c0, i4, i5, i6⟩
        by_cases q : v < mm_gz o n
        · rw [show lg_mx (some v) (mm_gz o n) = mm_gz o n from if_pos q]
          refine ⟨b1, b2, fun c hc h => ?_, n, by omega, yes, rfl⟩
          by_cases z : c = n
          · subst z; exact Nat.le_refl _
          · have := i3 c (by omega) h; omega
        · rw [show lg_mx (some v) (mm_gz o n) = v from if_neg q]
          refine ⟨i1, i2, fun c hc h => ?_, c0, by omega, i5, i6⟩
          by_cases z : c = n
          · subst z; omega
          · exact i3 c (by omega) h
section LO
variable {xs : List Int32} {C : cl_T} {h : jx_H}
/-- a loop whose rounds cost what their numbers say -/
theorem lo_lpc {γ : Type} (E : Nat → γ → jx_H → jx_R) (n : Nat) (cs : Nat → Nat) (N0 : Nat) (v : Value) (I : Nat → γ → Prop)
    (h0 : ∀ g h, I n g → lo_I xs C h → lo_V xs C h (E n g h) v N0)
    (hs : ∀ i g h B, i < n → I i g → lo_I xs C h → (∀ g' h', I (i + 1) g' → lo_I xs C h' → lo_V xs C h' (E (i + 1) g' h') v B) → lo_V xs C h (E i g h) v (cs i + B)) :
    ∀ g h, I 0 g → lo_I xs C h → lo_V xs C h (E 0 g h) v (mz_su cs n + N0) := by
  have key : ∀ (k i : Nat) (g : γ) (h : jx_H), i + k = n → I i g → lo_I xs C h → lo_V xs C h (E i g h) v (mz_su (fun j => cs (i + j)) k + N0) := by
    intro k
    induction k with
    | zero => intro i g h e hI L; have : i = n := by omega
              subst this; exact lo_wd (h0 g h hI L) (by omega)
    | succ k ih =>
      intro i g h e hI L
      have e1 : mz_su (fun j => cs (i + j)) (k + 1) = cs i + mz_su (fun j => cs (i + 1 + j)) k := by
        rw [show k + 1 = 1 + k by omega, mz_su_add]
        show 0 + cs (i + 0) + mz_su (fun j => cs (i + (1 + j))) k = _
        rw [Nat.zero_add, Nat.add_zero, mz_su_cong (fun j _ => by rw [← Nat.add_assoc])]
      rw [e1, Nat.add_assoc]
      exact hs i g h _ (by omega) hI L (fun g' h' I' L' => ih (i + 1) g' h' (by omega) I' L')
  intro g h hI L
  have := key n 0 g h (by omega) hI L
  rw [mz_su_cong (g := cs) (fun j _ => by rw [Nat.zero_add])] at this
  exact this
theorem l_156 (L : lo_I xs C h) : lo_V xs C h (jx_A 156 [.ref 200] h) (.int (lg_n (lg_m C.1.2.2.2 64))) 1 := by
  obtain ⟨v, h', q1, q2, q3, I, t⟩ := c_98 L.1 L.2.1
  have s := lg_m_s C.1.2.2.2 64 (Nat.le_refl _)
  cases e : lg_m C.1.2.2.2 64 with
  | none =>
    rw [e] at s
    have v0 : v = 0 := by
      rcases q1.2 with z | ⟨c, hc, h1, -⟩
      · exact z
      · rw [s c hc] at h1; cases h1
    rw [if_pos v0] at q3
    exact ⟨jx_thr h', w_156_eNS L.2.1 q3, lo_x (lo_eq L t I), (Nat.zero_add 1) ▸ zz_tr (zz_eq t) zz_x⟩
  | some w =>
    rw [e] at s
    obtain ⟨s1, s2, s3, c, s4, s5, s6⟩ := s
    have ev : v = w := mm_lg_1 q1 ⟨s3, Or.inr ⟨c, s4, s5, s6⟩⟩
    subst ev
    rw [if_neg (by omega)] at q3
    exact ⟨h', w_156_ok L.2.1 q3, lo_eq L t I, zz_wd (zz_eq t) (by decide)⟩
theorem gz_gk (o : Nat → Option fg_T) (c : Nat) : mz_su (fun d => (mb (mm_gk o c) d).toNat) 64 = mm_gz o c := mz_su_cong (fun d hd => by unfold mm_gk; rw [mb_mk _ hd])
theorem lg_max (v : Option Nat) {n : Nat} (h1 : n ≤ 64) (hv : ∀ w, v = some w → w ≤ 64) (h : jx_H) : jx_A 246 [.int (lg_n v), .int (nI n)] h = some (.inl (some (.int (nI (lg_mx v n)))), h) := by
  rw [a_246]
  cases v with
  | none => rw [if_pos (show lg_n none < nI n by
      have : ∀ n, n < 65 → (-13 : Int32) < nI n := by decide +kernel
      exact this n (by omega))]; rfl
  | some w =>
    have w64 := hv w rfl
    by_cases q : w < n
    · rw [if_pos (show lg_n (some w) < nI n from nI_lt q (by omega)), show lg_mx (some w) n = n from if_pos q]
    · rw [if_neg (show ¬ lg_n (some w) < nI n from nI_nlt (by omega) (by omega)), show lg_mx (some w) n = w from if_neg q]; rfl
theorem l_183 (L : lo_I xs C h) (D : dr_I C.1) : lo_V xs C h (jx_A 183 [.ref 200] h) (.int 1) 220000 := by
  have n20 := D.2.1
  have on20 : mz_su (fun c => (C.1.2.2.2 c).isSome.toNat) 64 ≤ 20 := by
    have h2 := mm_oc_n D.1
    have h3 := mm_on_lo C.1
    have h5 : mm_on C.1 = mz_su (fun k => (fg_on (C.1.2.2.1 k)).toNat) C.1.1 := rfl
    omega
  rw [a_183, ← sn_0 C.1.2.2.2]
  refine lo_wd (N := mz_su (fun i => 1 + 10752 * (C.1.2.2.2 i).isSome.toNat) 64 + 3) (lo_lpc (γ := Value × Value × Value × Value) (fun i g h => jx_E 183 11 [.ref 200, .long (sn_m C.1.2.2.2 i), jx_j, .int (nI (mz_su (fun c => (mm_fs C.1.2.2.2 c).toNat) i)), .int (lg_n (lg_m C.1.2.2.2 i)), .int (nI i), g.1, g.2.1, g.2.2.1, g.2.2.2] [] h) 64 (fun i => 1 + 10752 * (C.1.2.2.2 i).isSome.toNat) 3 _ (fun _ _ => True) ?_ ?_ (jx_j, jx_j, jx_j, jx_j) h trivial L) ?_
  · intro g h _ L
    show lo_V xs C h (jx_E 183 11 _ _ _) _ _
    rw [b_183_11, if_pos (by decide)]
    refine lo_is L (lo_cI (lo_pe L (by obtain ⟨h', e, I, t⟩ := c_94 L.1 L.2.1; exact ⟨h', e, I, t⟩)) (by decide) (fun h1 L => ?_))
    rw [if_pos (show nI (mm_gc C.1.2.2.2) = nI (mz_su (fun c => (mm_fs C.1.2.2.2 c).toNat) 64) from rfl)]
    refine lo_is L (lo_cI (lo_pe L (by obtain ⟨h', e, I, t⟩ := c_95 L.1 L.2.1; exact ⟨h', e, I, t⟩)) (by decide) (fun h2 L => ?_))
    rw [if_pos (show nI (mm_gc C.1.2.2.2) = nI (mz_su (fun c => (mm_fs C.1.2.2.2 c).toNat) 64) from rfl)]
    refine lo_cI (l_156 L) (by decide) (fun h3 L => ?_)
    rw [if_pos rfl]
    refine lo_is L (lo_cI (lo_pe L (by obtain ⟨h', e, I, t⟩ := c_102 L.1 L.2.1; exact ⟨h', e, I, t⟩)) (by decide) (fun h4 L => ?_))
    rw [if_neg (by decide)]
    refine lo_cI (l_155n L D (Or.inl (dr_m1 D))) (by decide) (fun h5 L => ?_)
    rw [if_pos rfl]
    refine lo_cL (l_164n L D (v := 99) (Or.inl (fun k hk q => by have := (nI_eq (a := 99) (by decide) (by omega)).mp q; omega))) (by decide) (fun h6 L => ?_)
    rw [if_pos (lg_rf _)]
    exact lo_rt L _
  · intro i g h B hi _ L kk
    show lo_V xs C h (jx_E 183 11 _ _ _) _ _
    rw [b_183_11, if_neg (show ¬ (64 : Int32) ≤ nI i from nI_ge hi (by decide)), lg_div i hi, lg_mod i hi]
    refine lo_cI (l_147 L (q_rc hi)) (by omega) (fun h1 L => ?_)
    have e1 : mz_su (fun c => (mm_fs C.1.2.2.2 c).toNat) (i + 1) = mz_su (fun c => (mm_fs C.1.2.2.2 c).toNat) i + (mm_fs C.1.2.2.2 i).toNat := rfl
    have e2 : lg_m C.1.2.2.2 (i + 1) = match C.1.2.2.2 i with | none => lg_m C.1.2.2.2 i | some _ => some (lg_mx (lg_m C.1.2.2.2 i) (mm_gz C.1.2.2.2 i)) := rfl
    rw [e1, e2] at kk
    rcases lb_neg D (c := some i) (fun d e => by cases e; exact hi) with ⟨q1, q2⟩ | ⟨f, q1, q2, q3, q4⟩
    · have q2 : C.1.2.2.2 i = none := q2
      have no : (C.1.2.2.2 i).isSome = false := by rw [q2]; rfl
      rw [sn_no no, fs_no no, q2] at kk
      rw [if_pos q1, nI_1]
      exact lo_wd (kk (.int (lb C.1 (some i)), g.2.1, g.2.2.1, g.2.2.2) h1 trivial L) (by omega)
    · have q1 : C.1.2.2.2 i = some f := q1
      have yes : (C.1.2.2.2 i).isSome = true := by rw [q1]; rfl
      obtain ⟨k, r1, r2, r3⟩ := q2
      obtain ⟨-, s2, s3⟩ := dr_at D hi q1
      have ce : fg_ce (C.1.2.2.1 k) = i + 1 := by rw [r2]; exact fg_on_c s2 s3
      rw [sn_yes yes, sn_fs hi yes, q1] at kk
      rw [if_neg q4, q3, r3, q1]
      show lo_V xs C h1 _ _ (1 + 10752 * 1 + B - 1)
      have P0 : gw_P C.1.2.2.2 i (mz_bit i) := ⟨by rw [mb_bit hi, decide_eq_true rfl], fun c hc e => by
        rw [mb_bit hi] at e
        rw [of_decide_eq_true e]
        exact mm_re_0⟩
      refine lo_cL (lo_wd (l_G D hi yes 20 300 (mz_bit i) h1 (by decide) (by decide) L P0 (by omega)) (show (20 + 1) * 512 ≤ 10752 by decide)) (by omega) (fun h2 L => ?_)
      refine lo_cI (lo_p L (m_245 _ h2)) (by omega) (fun h3 L => ?_)
      rw [gz_gk, bt_0 _ hi]
      obtain ⟨z1, z2⟩ := mm_gz_1 (o := C.1.2.2.2) (c := i) hi
      have last : ∀ (w : Int32), w = nI (mb (sn_m C.1.2.2.2 i) i = false : Bool).toNat → lo_V xs C h3 (jx_E 183 73 [.ref 200, .long (sn_m C.1.2.2.2 i), jx_j, .int (nI (mz_su (fun c => (mm_fs C.1.2.2.2 c).toNat) i)), .int (lg_n (lg_m C.1.2.2.2 i)), .int (nI i), .int (nI k), .long (mm_gk C.1.2.2.2 i), jx_j, .int (nI (mm_gz C.1.2.2.2 i))] [.int w, .int (nI (mz_su (fun c => (mm_fs C.1.2.2.2 c).toNat) i))] h3) (.int 1) B := by
        intro w hw
        subst hw
        rw [b_183_73]
        refine lo_cI (lo_p L (lg_max _ z2 (fun w e => ?_) h3)) (by omega) (fun h4 L => ?_)
        · have := lg_m_s C.1.2.2.2 i (by omega)
          rw [e] at this
          exact this.2.1
        refine lo_cL (l_164 L D r1 ce) (by omega) (fun h5 L => ?_)
        rw [if_pos (lg_rf _)]
        refine lo_cI (l_155 L D r1 ce) (by omega) (fun h6 L => ?_)
        rw [if_pos rfl, nI_1, nI_add]
        have k2 := kk (.int (nI k), .long (mm_gk C.1.2.2.2 i), jx_j, .int (nI (mm_gz C.1.2.2.2 i))) h6 trivial L
        refine lo_wd (N := B) ?_ (by omega)
        revert k2
        cases mb (sn_m C.1.2.2.2 i) i <;> exact id
      cases e : mb (sn_m C.1.2.2.2 i) i with
      | true => exact lo_wd (last 0 (by rw [e]; rfl)) (by omega)
      | false => exact lo_wd (last 1 (by rw [e]; rfl)) (by omega)
  · rw [← mz_su_plus]
    have e1 : mz_su (fun _ => 1) 64 = 64 := mz_su_1 64
    have e2 : ∀ n, mz_su (fun i => 10752 * (C.1.2.2.2 i).isSome.toNat) n = 10752 * mz_su (fun i => (C.1.2.2.2 i).isSome.toNat) n := fun n => by
      induction n with
      | zero => rfl
      | succ n ih =>
        show mz_su _ n + 10752 * _ = 10752 * (mz_su _ n + _)
        rw [ih, Nat.mul_add]
    rw [e1, e2]
    omega
end LO
end JX
