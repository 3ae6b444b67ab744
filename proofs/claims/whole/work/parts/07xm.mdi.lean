/-! The other object fills. -/
section JX
theorem mz_su_dec {f g : Nat → Nat} {k : Nat} : ∀ n, k < n → f k = 1 → g k = 0 → (∀ j, j < n → j ≠ k → g j = f j) → mz_su g n + 1 = mz_su f n
  | n + 1, hk, h1, h0, h => by
    show mz_su g n + g n + 1 = mz_su f n + f n
    by_cases e : k = n
    · subst e
      rw [mz_su_cong (f := g) (g := f) (fun i hi => h i (by omega) (by omega)), h1, h0]
    · have := mz_su_dec n (by omega) h1 h0 (fun j hj => h j (by omega))
      have := h n (Nat.lt_succ_self n) (fun q => e q.symm)
      omega
theorem mm_bg_none {n : Nat} {F : Nat → fg_T} {o : Nat → Option fg_T} (al : ∀ k, k < n → fg_on (F k) = true) : ∀ c, mm_bg n F o c = (-1, 0) := by
  intro c
  induction c with
  | zero => rfl
  | succ c ih =>
    unfold mm_bg
    rw [ih, if_neg]
    unfold mm_pt
    cases mm_gap o c with
    | false => exact (by decide : ¬ (0 : Int) < 0)
    | true =>
      have : mm_mx 0 F (fun k => mm_tw o (F k) c) n ≤ 0 := mm_mx_le (Int.le_refl _) n (fun j hj hl => by rw [al j hj] at hl; cases hl)
      show ¬ (0 : Int) < mm_mx 0 F (fun k => mm_tw o (F k) c) n
      omega
theorem mm_bg_gap {n : Nat} {F : Nat → fg_T} {o : Nat → Option fg_T} : ∀ i, (mm_bg n F o i).1 = -1 ∨ ∃ c : Nat, c < i ∧ (mm_bg n F o i).1 = (c : Int) ∧ mm_gap o c = true
  | 0 => Or.inl rfl
  | i + 1 => by
    unfold mm_bg
    have ih := mm_bg_gap (n := n) (F := F) (o := o) i
    have bb := (mm_bg_b o n F i).1
    by_cases z : (mm_bg n F o i).2 < mm_pt n F o i
    · rw [if_pos z]
      refine Or.inr ⟨i, Nat.lt_succ_self _, rfl, ?_⟩
      cases e : mm_gap o i with
      | true => rfl
      | false =>
        unfold mm_pt at z
        rw [e] at z
        have z : (mm_bg n F o i).2 < 0 := z
        omega
    · rw [if_neg z]
      rcases ih with q | ⟨c, h1, h2⟩
      · exact Or.inl q
      · exact Or.inr ⟨c, by omega, h2⟩
def mm_ls (M : mm_T) : Nat := mz_su (fun k => (!fg_on (M.2.2.1 k)).toNat) M.1
theorem mm_ls_0 {M : mm_T} (h : mm_ls M = 0) : ∀ k, k < M.1 → fg_on (M.2.2.1 k) = true := by
  intro k hk
  cases e : fg_on (M.2.2.1 k) with
  | true => rfl
  | false =>
    have le : ∀ m, k < m → 1 ≤ mz_su (fun k => (!fg_on (M.2.2.1 k)).toNat) m := by
      intro m
      induction m with
      | zero => intro h; omega
      | succ m ih =>
        intro q
        show 1 ≤ mz_su _ m + (!fg_on (M.2.2.1 m)).toNat
        by_cases c : k = m
        · subst c; rw [e]; exact Nat.le_add_left _ _
        · have := ih (by omega); omega
    have := le M.1 hk
    unfold mm_ls at h
    omega
theorem mm_ls_pg {M : mm_T} {k c : Nat} (hk : k < M.1) (hl : fg_on (M.2.2.1 k) = false) : mm_ls (mm_pg M k c) + 1 = mm_ls M := by
  refine mz_su_dec (k := k) M.1 hk (by rw [hl]; rfl) ?_ (fun j hj ne => ?_)
  · show (!fg_on (mz_up M.2.2.1 k (mm_gf M k c) k)).toNat = 0
    rw [mz_up_s]; rfl
  · show (!fg_on (mz_up M.2.2.1 k (mm_gf M k c) j)).toNat = _
    rw [mz_up_n ne]
theorem mm_ok_pg {M : mm_T} {k c : Nat} (O : mm_ok M) : mm_ok (mm_pg M k c) := by
  have e : ∀ j, fg_id ((mm_pg M k c).2.2.1 j) = fg_id (M.2.2.1 j) := fun j => by
    show fg_id (mz_up M.2.2.1 k (mm_gf M k c) j) = _
    by_cases z : j = k
    · subst z; rw [mz_up_s]; rfl
    · rw [mz_up_n z]
  exact ⟨fun i j h1 h2 => by rw [e, e]; exact O.1 i j h1 h2, fun j hj => by rw [e]; exact O.2 j hj⟩
section RD
variable {y : Nat} {R : ro_R}
theorem m_192e : ∀ (m : Nat) {u : jx_H} {S : Nat → Nat} {M : mm_T} (r0 : Nat), ro_I u y S 0 R → ro_S S M → mm_ok M → mm_ls M ≤ m →
    ∃ r M' h' S', mm_fl m M r M' ∧ jx_E 192 7 [.ref y, .int (nI r0), .int (zI (mm_bg M.1 M.2.2.1 M.2.2.2 64).1)] [] u = some (.inl (some (.int (nI (r0 + r)))), h') ∧ ro_I h' y S' 0 R ∧ ro_S S' M' ∧ mz_eq y (y + 8) u h' := by
  intro m
  induction m with
  | zero =>
    intro u S M r0 I Q O L
    have b := mm_bg_none (o := M.2.2.2) (mm_ls_0 (Nat.le_zero.mp L)) 64
    exact ⟨0, M, u, S, ⟨rfl, rfl⟩, by rw [b, b_192_7, if_pos (show zI (-1) < 0 by decide)]; rfl, I, Q, mz_eq_rf⟩
  | succ m ih =>
    intro u S M r0 I Q O L
    rcases mm_bg_gap (n := M.1) (F := M.2.2.1) (o := M.2.2.2) 64 with b | ⟨c, hc, b, gp⟩
    · exact ⟨0, M, u, S, Or.inl ⟨b, rfl, rfl⟩, by rw [b, b_192_7, if_pos (show zI (-1) < 0 by decide)]; rfl, I, Q, mz_eq_rf⟩
    · have Q0 := Q
      obtain ⟨p, A, g, B, hF, ho⟩ := Q
      have J : rq_J u y (ro_fs y 0 R) S M.1 M.2.1 p A g := ⟨I.1, B⟩
      have hn := rq_n J
      have eg : mm_gap (bd_o A g) c = true := by rw [mm_gap_cong ho hc]; exact gp
      obtain ⟨o, hgr, x7⟩ := m_187 J (mm_okA O hF) hc
      have hgr' : mm_gr M.1 M.2.2.1 (mm_tws M c) 0 o := mm_gr_F hF ho hc hgr
      cases o with
      | none =>
        exfalso
        by_cases z : ∃ k, k < M.1 ∧ fg_on (M.2.2.1 k) = false
        · obtain ⟨k1, h1, h2, h3⟩ := mm_rk_0 (F := M.2.2.1) (tw := mm_tws M c) M.1 z
          exact hgr' k1 h1 ⟨h2, by rw [mm_rk_z (fun j hj hl => h3 j hj hl)]; rfl⟩
        · have b0 := mm_bg_none (o := M.2.2.2) (F := M.2.2.1) (n := M.1) (fun k hk => by
            cases e : fg_on (M.2.2.1 k) with
            | true => rfl
            | false => exact absurd ⟨k, hk, e⟩ z) 64
          rw [b0] at b
          have b : (-1 : Int) = (c : Int) := b
          omega
      | some k =>
        have hk : k < M.1 := hgr.1
        have gn : g c = none := by
          have := mm_gap_none eg
          unfold bd_o at this
          cases z : g c with
          | none => rfl
          | some i => rw [z] at this; cases this
        obtain ⟨h2, S2, x2, I2, ⟨A', g', B2, hF2, ho2⟩, t2⟩ := m_188 I Q0 B hF ho hk hc hgr.2.1 gn
        have J2 : rq_J h2 y (ro_fs y 0 R) S2 M.1 M.2.1 p A' g' := ⟨I2.1, B2⟩
        have O2 : mm_ok (mm_pg M k c) := mm_ok_pg O
        have L2 := mm_ls_pg (c := c) hk hgr'.2.1
        have x3 := m_193 J2 (mm_okA (M := mm_pg M k c) O2 hF2)
        have bge : mm_bg M.1 (fun k => A' (p k)) (bd_o A' g') 64 = mm_bg M.1 (mm_pg M k c).2.2.1 (mm_pg M k c).2.2.2 64 := mm_bg_cong hF2 ho2 (Nat.le_refl _)
        rw [bge] at x3
        obtain ⟨r, M', h', S', f1, f2, f3, f4, f5⟩ := ih (r0 + 1) I2 (show ro_S S2 (mm_pg M k c) from ⟨p, A', g', B2, hF2, ho2⟩) O2 (by omega)
        refine ⟨r + 1, M', h', S', Or.inr ⟨c, k, r, hc, b, hgr', rfl, f1⟩, ?_, f3, f4, mz_eq_tr t2 f5⟩
        rw [b, zI_n, b_192_7, if_neg (nI_pos (by omega)), rq_is J, jx_cI_e x7, rq_is J, jx_cV_e x2, rq_is J2, jx_cI_e x3, nI_1, show r0 + (r + 1) = r0 + 1 + r by omega]
        exact f2
theorem m_192 {h : jx_H} {S : Nat → Nat} {M : mm_T} (I : ro_I h y S 0 R) (Q : ro_S S M) (O : mm_ok M) : ∃ r M' h' S', mm_fl 20 M r M' ∧ jx_A 192 [.ref y] h = some (.inl (some (.int (nI r))), h') ∧ ro_I h' y S' 0 R ∧ ro_S S' M' ∧ mz_eq y (y + 8) h h' := by
  have Q0 := Q
  obtain ⟨p, A, g, B, hF, ho⟩ := Q
  have J : rq_J h y (ro_fs y 0 R) S M.1 M.2.1 p A g := ⟨I.1, B⟩
  have hn := rq_n J
  have x := m_193 J (mm_okA O hF)
  have bge : mm_bg M.1 (fun k => A (p k)) (bd_o A g) 64 = mm_bg M.1 M.2.2.1 M.2.2.2 64 := mm_bg_cong hF ho (Nat.le_refl _)
  rw [bge] at x
  have L : mm_ls M ≤ M.1 * 1 := mz_su_le fun k _ => by
    cases fg_on (M.2.2.1 k) <;> decide
  obtain ⟨r, M', h', S', f1, f2, f3, f4, f5⟩ := m_192e 20 0 I Q0 O (by omega)
  refine ⟨r, M', h', S', f1, ?_, f3, f4, f5⟩
  rw [a_192, rq_is J, jx_cI_e x]
  rw [Nat.zero_add] at f2
  exact f2
end RD
end JX
