/-! The other object's changes. -/
section JX
def rq_F (S : Nat → Nat) (n nx : Nat) (p : Nat → Nat) (A : Nat → fg_T) (g : Nat → Option Nat) : Prop :=
  S 0 = nx ∧ (∀ k, k < n → fg_ok (A (p k)) ∧ ∀ w, w < 8 → S (1 + 8 * p k + w) = fg_w (A (p k)) w) ∧ (∀ k, n ≤ k → k < 20 → S (1 + 8 * p k) = 0) ∧ (∀ c, c < 64 → S (161 + c) = rq_g (g c)) ∧ n ≤ 20 ∧ nx < 2 ^ 30 ∧ (∀ k, k < 20 → p k < 20)
section PU
variable {S : Nat → Nat} {n nx : Nat} {p : Nat → Nat} {A : Nat → fg_T} {g : Nat → Option Nat}
theorem rq_BF (B : rq_B S n nx p A g) : rq_F S n nx p A g := ⟨B.1, B.2.1, B.2.2.1, B.2.2.2.1, B.2.2.2.2.1, B.2.2.2.2.2.1, B.2.2.2.2.2.2.1⟩
theorem rq_FB (B : rq_F S n nx p A g) (W : bd_W n p A g) : rq_B S n nx p A g := ⟨B.1, B.2.1, B.2.2.1, B.2.2.2.1, B.2.2.2.2.1, B.2.2.2.2.2.1, B.2.2.2.2.2.2, W⟩
theorem rf_fld (B : rq_F S n nx p A g) (inj : ∀ j k, j < 20 → k < 20 → p j = p k → j = k) {k w0 v : Nat} {f' : fg_T} (hk : k < n) (hw : w0 < 8) (hf : fg_ok f') (e : ∀ w, w < 8 → fg_w f' w = if w = w0 then v else fg_w (A (p k)) w) : rq_F (mz_up S (1 + 8 * p k + w0) v) n nx p (mz_up A (p k) f') g := by
  obtain ⟨b1, b2, b3, b4, b5, b6, b7⟩ := B
  have pk := b7 k (by omega)
  refine ⟨?_, fun j hj => ?_, fun j h1 h2 => ?_, fun c hc => ?_, b5, b6, b7⟩
  · rw [mz_up_n (by omega)]; exact b1
  · by_cases c : j = k
    · subst c
      rw [mz_up_s]
      refine ⟨hf, fun w hw2 => ?_⟩
      rw [e w hw2]
      by_cases d : w = w0
      · subst d; rw [mz_up_s, if_pos rfl]
      · rw [mz_up_n (by omega), if_neg d]; exact (b2 j hj).2 w hw2
    · have ne : p j ≠ p k := fun q => c (inj j k (by omega) (by omega) q)
      rw [mz_up_n ne]
      refine ⟨(b2 j hj).1, fun w hw2 => ?_⟩
      rw [mz_up_n (by omega)]; exact (b2 j hj).2 w hw2
  · have ne : p j ≠ p k := fun q => (by have := inj j k (by omega) (by omega) q; omega)
    rw [mz_up_n (by omega)]; exact b3 j h1 h2
  · rw [mz_up_n (by omega)]; exact b4 c hc
theorem rf_gr (B : rq_F S n nx p A g) {c : Nat} (hc : c < 64) (o : Option Nat) : rq_F (mz_up S (161 + c) (rq_g o)) n nx p A (mz_up g c o) := by
  obtain ⟨b1, b2, b3, b4, b5, b6, b7⟩ := B
  refine ⟨?_, fun j hj => ⟨(b2 j hj).1, fun w hw => ?_⟩, fun j h1 h2 => ?_, fun d hd => ?_, b5, b6, b7⟩
  · rw [mz_up_n (by omega)]; exact b1
  · have := b7 j (by omega)
    rw [mz_up_n (by omega)]; exact (b2 j hj).2 w hw
  · have := b7 j h2
    rw [mz_up_n (by omega)]; exact b3 j h1 h2
  · by_cases e : d = c
    · subst e; rw [mz_up_s, mz_up_s]
    · rw [mz_up_n (by omega), mz_up_n e]; exact b4 d hd
theorem fg_w_sce (f : fg_T) (v : Nat) : ∀ w, w < 8 → fg_w (fg_sce f v) w = if w = 7 then v else fg_w f w := by
  intro w hw
  match w, hw with
  | 0, _ => rfl
  | 1, _ => rfl
  | 2, _ => rfl
  | 3, _ => rfl
  | 4, _ => rfl
  | 5, _ => rfl
  | 6, _ => rfl
  | 7, _ => rfl
theorem fg_w_stn (f : fg_T) (v : Nat) : ∀ w, w < 8 → fg_w (fg_stn f v) w = if w = 6 then v else fg_w f w := by
  intro w hw
  match w, hw with
  | 0, _ => rfl
  | 1, _ => rfl
  | 2, _ => rfl
  | 3, _ => rfl
  | 4, _ => rfl
  | 5, _ => rfl
  | 6, _ => rfl
  | 7, _ => rfl
theorem fg_ok_sce {f : fg_T} (H : fg_ok f) {v : Nat} (hv : v ≤ 64) : fg_ok (fg_sce f v) := ⟨H.1, H.2.1, H.2.2.1, H.2.2.2.1, hv⟩
theorem fg_ok_stn {f : fg_T} (H : fg_ok f) {v : Nat} (hv : v < 4) : fg_ok (fg_stn f v) := ⟨H.1, H.2.1, H.2.2.1, hv, H.2.2.2.2⟩
end PU
/-- what the board's numbers say -/
def ro_S (S : Nat → Nat) (M : mm_T) : Prop := ∃ p A g, rq_B S M.1 M.2.1 p A g ∧ (∀ k, k < M.1 → A (p k) = M.2.2.1 k) ∧ (∀ c, c < 64 → bd_o A g c = M.2.2.2 c)
/-- ids go up, and stay below the next one -/
def mm_ok (M : mm_T) : Prop := (∀ j k, j < k → k < M.1 → fg_id (M.2.2.1 j) < fg_id (M.2.2.1 k)) ∧ ∀ k, k < M.1 → fg_id (M.2.2.1 k) < M.2.1
theorem mm_okA {M : mm_T} {p : Nat → Nat} {A : Nat → fg_T} (H : mm_ok M) (hF : ∀ k, k < M.1 → A (p k) = M.2.2.1 k) : rq_A M.1 p A := fun j k h1 h2 => by
  rw [hF j (by omega), hF k h2]
  exact H.1 j k h1 h2
/-- a change of the other object, or its refusal with a number -/
def rd_C (h : jx_H) (y : Nat) (S : Nat → Nat) (R : ro_R) (X : jx_R) (ok : Int32 → mm_T → Prop) (no : Int32 → Prop) (cd : Int32 → Int32) : Prop :=
  (∃ r M' h' S', ok r M' ∧ X = some (.inl (some (.int r)), h') ∧ ro_I h' y S' 0 R ∧ ro_S S' M' ∧ mz_eq y (y + 8) h h') ∨
  (∃ e h', no e ∧ X = some (.inl (some (.int 0)), h') ∧ ro_I h' y S (cd e) R ∧ mz_eq y (y + 8) h h')
section RD
variable {h : jx_H} {y : Nat} {S : Nat → Nat} {R : ro_R} {M : mm_T}
theorem rd_no {X : jx_R} {ok : Int32 → mm_T → Prop} {no : Int32 → Prop} {cd : Int32 → Int32} {e k : Int32} (I : ro_I h y S 0 R) (hn : no e) (hk : cd e = k) (hX : X = jx_cI jx_A 138 [.ref y, .int k] h (fun y9 h8 => some (.inl (some (.int y9)), h8))) : rd_C h y S R X ok no cd := by
  obtain ⟨h1, x1, I1, t1⟩ := m_138 I k
  exact Or.inr ⟨e, h1, hn, by rw [hX, jx_cI_e x1], by rw [hk]; exact I1, t1⟩
def cd_turn (e : Int32) : Int32 := if e = -1 then 1 else 2
def cd_put (e : Int32) : Int32 := if e = -1 then 1 else (if e = -2 then 2 else 3)
def cd_take (e : Int32) : Int32 := if e = -1 then 1 else 2
def cd_swap (e : Int32) : Int32 := if e = -1 then 1 else (if e = -3 then 2 else 3)
theorem m_179 (I : ro_I h y S 0 R) (Q : ro_S S M) (O : mm_ok M) (v t : Int32) : rd_C h y S R (jx_A 179 [.ref y, .int v, .int t] h) (ok_turn M v t) (no_turn M v t) cd_turn := by
  obtain ⟨p, A, g, B, hF, ho⟩ := Q
  have J : rq_J h y (ro_fs y 0 R) S M.1 M.2.1 p A g := ⟨I.1, B⟩
  have hn := rq_n J
  obtain ⟨o, hf, e⟩ := m_144 J (rq_AU (mm_okA O hF)) v
  have hf' : mm_fd M v o := bd_fd_cong hF hf
  cases o with
  | none => exact rd_no I (k := 1) (Or.inl ⟨hf', rfl⟩) rfl (by rw [a_179, rq_is J, jx_cI_e e, if_neg (show ¬ (0 : Int32) ≤ -1 by decide), rq_is J])
  | some k =>
    have hk : k < M.1 := hf.1
    have pk := rq_p J (show k < 20 by omega)
    have E : jx_A 179 [.ref y, .int v, .int t] h = jx_cI jx_A 135 [.int t, .int 0, .int 3] h (fun y4 h3 => if y4 = 0 then (jx_is h3 y 8 (jx_cI jx_A 138 [.ref y, .int 2] h3 (fun y9 h8 => some (.inl (some (.int y9)), h8)))) else (jx_is h3 y 8 (jx_cI jx_A 140 [.ref y, .int (nI (p k)), .int 6] h3 (fun y6 h5 => jx_is h5 y 8 (jx_cV jx_A 141 [.ref y, .int (nI (p k)), .int 6, .int t] h5 (fun h7 => some (.inl (some (.int y6)), h7))))))) := by
      rw [a_179, rq_is J, jx_cI_e e, if_pos (show (0 : Int32) ≤ nI (p k) from nI_pos' (by omega))]
    rcases m_135r t 3 (by decide) h with ⟨t', ht, rfl, q⟩ | ⟨ht, q⟩
    · obtain ⟨h1, x1, I1, t1⟩ := m_141 I pk (w := 6) (by decide) t'
      have B1 := rf_fld (rq_BF B) (rq_W J).1 hk (w0 := 6) (v := t') (by decide) (fg_ok_stn (rq_ok J hk) (by omega)) (fg_w_stn _ t')
      have W1 : bd_W M.1 p (mz_up A (p k) (fg_stn (A (p k)) t')) g := bd_W_ce (rq_W J) (fun i => by
        by_cases c : i = p k
        · rw [c, mz_up_s]; rfl
        · rw [mz_up_n c])
      refine Or.inl ⟨_, _, h1, _, ⟨k, t', hf', rfl, ht, rfl, rfl⟩, ?_, I1, ⟨p, _, g, rq_FB B1 W1, ?_, ?_⟩, t1⟩
      · rw [E, jx_cI_e (show jx_A 135 [.int (nI t'), .int 0, .int 3] h = _ from q), if_neg (by decide), rq_is J, jx_cI_e (m_140t J hk), rq_is J, jx_cV_e (show jx_A 141 [.ref y, .int (nI (p k)), .int 6, .int (nI t')] h = _ from x1), hF k hk]
      · rw [hF k hk]
        exact bd_F_up (rq_W J) hn hF hk
      · intro c hc
        rw [hF k hk]
        show _ = (match fg_ce (M.2.2.1 k) with | 0 => M.2.2.2 | d + 1 => mz_up M.2.2.2 d (some (fg_stn (M.2.2.1 k) t'))) c
        cases ce : fg_ce (M.2.2.1 k) with
        | zero => rw [bd_o_off (rq_W J) (by rw [hF k hk]; exact ce) hc]; exact ho c hc
        | succ d =>
          rw [bd_o_on (rq_W J) hk (by rw [hF k hk]; exact ce) hc]
          show mz_up _ _ _ c = mz_up _ _ _ c
          unfold mz_up
          rw [ho c hc]
    · exact rd_no I (k := 2) (e := -3) (Or.inr ⟨k, hf', ht, rfl⟩) rfl (by rw [E, jx_cI_e (show jx_A 135 [.int t, .int 0, .int 3] h = _ from q), if_pos rfl, rq_is J])
/-- a fragment is laid on a cell -/
theorem m_174 {th : Int32} (I : ro_I h y S th R) {j c : Nat} (hj : j < 20) (hc : c < 64) : ∃ h', jx_A 174 [.ref y, .int (nI j), .int (nI c)] h = some (.inl none, h') ∧ ro_I h' y (mz_up (mz_up S (1 + 8 * j + 7) (c + 1)) (161 + c) (j + 1)) th R ∧ mz_eq y (y + 8) h h' := by
  obtain ⟨h1, x1, I1, t1⟩ := m_141 I hj (w := 7) (by decide) (c + 1)
  obtain ⟨h2, x2, I2, t2⟩ := ro_ps I1 (k := 161 + c) (by omega) (j + 1)
  refine ⟨h2, ?_, I2, mz_eq_tr t1 t2⟩
  rw [a_174, ro_is I, nI_1, nI_1, jx_cV_e (show jx_A 141 [.ref y, .int (nI j), .int 7, .int (nI (c + 1))] h = _ from x1), ro_0 I1, show (161 : Int32) + nI c = nI (161 + c) from nI_add 161 c, x2]
theorem m_175 (I : ro_I h y S 0 R) (Q : ro_S S M) (O : mm_ok M) (v a b : Int32) : rd_C h y S R (jx_A 175 [.ref y, .int v, .int a, .int b] h) (ok_put M v a b) (no_put M v a b) cd_put := by
  obtain ⟨p, A, g, B, hF, ho⟩ := Q
  have J : rq_J h y (ro_fs y 0 R) S M.1 M.2.1 p A g := ⟨I.1, B⟩
  have hn := rq_n J
  obtain ⟨o, hf, e⟩ := m_144 J (rq_AU (mm_okA O hF)) v
  have hf' : mm_fd M v o := bd_fd_cong hF hf
  cases o with
  | none => exact rd_no I (k := 1) (e := -1) (Or.inl ⟨hf', rfl⟩) rfl (by rw [a_175, rq_is J, jx_cI_e e, if_neg (show ¬ (0 : Int32) ≤ -1 by decide), rq_is J])
  | some k =>
    have hk : k < M.1 := hf.1
    have pk := rq_p J (show k < 20 by omega)
    obtain ⟨cc, qc, e2⟩ := m_149q a b h
    have E : jx_A 175 [.ref y, .int v, .int a, .int b] h = if bI cc.isSome = 0 then (jx_cI jx_A 138 [.ref y, .int 2] h (fun y17 h16 => some (.inl (some (.int y17)), h16))) else (if bI (fg_on (A (p k))) = 0 then (jx_lI h (y + 1) 100 (161 + ((8 * a) + b)) (fun x10 => if x10 ≤ 0 then (jx_cV jx_A 174 [.ref y, .int (nI (p k)), .int ((8 * a) + b)] h (fun h11 => jx_is h11 y 8 (jx_cI jx_A 156 [.ref y, .int ((8 * a) + b), .int 1] h11 (fun y13 h12 => some (.inl (some (.int y13)), h12))))) else (jx_cI jx_A 138 [.ref y, .int 3] h (fun y15 h14 => some (.inl (some (.int y15)), h14))))) else (jx_cI jx_A 138 [.ref y, .int 3] h (fun y8 h7 => some (.inl (some (.int y8)), h7)))) := by
      rw [a_175, rq_is J, jx_cI_e e, if_pos (show (0 : Int32) ≤ nI (p k) from nI_pos' (by omega)), jx_cI_e e2, rq_is J, rq_is J, jx_cI_e (m_145 J hk), rq_0 J, rq_is J, rq_is J]
    cases cc with
    | none =>
      refine rd_no I (k := 2) (e := -2) (Or.inr ⟨k, hf', Or.inl ⟨qc, rfl⟩⟩) rfl ?_
      rw [E, if_pos (show bI _ = 0 from rfl)]
    | some c =>
      have hc := q_64 qc
      obtain ⟨i, j, rfl, hi, rfl, hj, rfl⟩ := qc
      rw [if_neg (show ¬ bI (some (8 * i + j)).isSome = 0 from (by decide : ¬ bI true = 0)), mz_8, rq_c J hc] at E
      cases eo : fg_on (A (p k)) with
      | true =>
        refine rd_no I (k := 3) (e := -4) (Or.inr ⟨k, hf', Or.inr ⟨i, j, rfl, hi, rfl, hj, Or.inl (by rw [← hF k hk]; exact eo), rfl⟩⟩) rfl ?_
        rw [E, eo, if_neg (by decide)]
      | false =>
        have hce := fg_on_0.mp eo
        rw [eo, if_pos (show bI false = 0 from rfl)] at E
        cases eg : g (8 * i + j) with
        | some z =>
          obtain ⟨k2, hk2, rfl, -⟩ := rq_gs J hc eg
          have pk2 := rq_p J (show k2 < 20 by omega)
          refine rd_no I (k := 3) (e := -4) (Or.inr ⟨k, hf', Or.inr ⟨i, j, rfl, hi, rfl, hj, Or.inr (by rw [← ho _ hc]; unfold bd_o; rw [eg]; rfl), rfl⟩⟩) rfl ?_
          rw [E, eg, if_neg (show ¬ nI (rq_g (some (p k2))) ≤ 0 from (show ¬ nI (p k2 + 1) ≤ 0 from nI_nle (Nat.succ_pos _) (by omega)))]
        | none =>
          rw [eg, if_pos (show nI (rq_g none) ≤ 0 by decide)] at E
          obtain ⟨h1, x1, I1, t1⟩ := m_174 I pk hc
          have B1 := rf_gr (rf_fld (rq_BF B) (rq_W J).1 hk (w0 := 7) (v := 8 * i + j + 1) (by decide) (fg_ok_sce (rq_ok J hk) (by omega)) (fg_w_sce _ (8 * i + j + 1))) hc (some (p k))
          have W1 := bd_W_put (rq_W J) hk hn hce eg
          have J1 : rq_J h1 y (ro_fs y 0 R) _ M.1 M.2.1 p _ _ := ⟨I1.1, rq_FB B1 W1⟩
          have hoo : ∀ c, c < 64 → bd_o (mz_up A (p k) (fg_sce (A (p k)) (8 * i + j + 1))) (mz_up g (8 * i + j) (some (p k))) c = (mm_put M k (8 * i + j)).2.2.2 c := fun c hc => by
            rw [bd_o_put (rq_W J) hce hc, hF k hk]
            show _ = mz_up M.2.2.2 _ _ c
            unfold mz_up
            rw [ho c hc]
          refine Or.inl ⟨_, mm_put M k (8 * i + j), h1, _, ⟨k, i, j, hf', rfl, hi, rfl, hj, by rw [← hF k hk]; exact eo, by rw [← ho _ hc]; unfold bd_o; rw [eg]; rfl, rfl, rfl⟩, ?_, I1, ⟨p, _, _, rq_FB B1 W1, ?_, hoo⟩, t1⟩
          · rw [E, jx_cV_e x1, rq_is J1, jx_cI_e (show jx_A 156 [.ref y, .int (nI (8 * i + j)), .int 1] h1 = _ from m_156 J1 hc true)]
            rw [show mm_ms (bd_o (mz_up A (p k) (fg_sce (A (p k)) (8 * i + j + 1))) (mz_up g (8 * i + j) (some (p k)))) (bd_kd true) (8 * i + j) = mm_ms (mm_put M k (8 * i + j)).2.2.2 1 (8 * i + j) from mm_ms_cong hoo hc]
          · rw [hF k hk]
            exact bd_F_up (rq_W J) hn hF hk
end RD
end JX
