/-! What the class answers to a question: in words, and by the code. -/
section JX
abbrev q_O : Type := Value ⊕ String
def q_res (o : q_O) (h' : jx_H) : jx_R := match o with | .inl v => some (.inl (some v), h') | .inr s => some (.inr s, jx_thr h')
def cl_Q (h : jx_H) (C : cl_T) (X : jx_R) (sp : q_O → Prop) : Prop := ∃ o h', sp o ∧ X = q_res o h' ∧ cl_I h' C ∧ mz_eq 200 711 h h'
def q_cell (y x : Int32) (o : Option Nat) : Prop := match o with
  | some c => ∃ i j : Nat, y = nI i ∧ i ≤ 7 ∧ x = nI j ∧ j ≤ 7 ∧ c = 8 * i + j
  | none => (∀ i : Nat, i ≤ 7 → y ≠ nI i) ∨ (∀ j : Nat, j ≤ 7 → x ≠ nI j)
def q_rng (v : Int32) (N : Nat) (o : Option Nat) : Prop := match o with
  | some j => v = nI j ∧ j ≤ N
  | none => ∀ j : Nat, j ≤ N → v ≠ nI j
def mm_lo (M : mm_T) : Nat := mz_su (fun k => (!fg_on (M.2.2.1 k)).toNat) M.1
def mm_gd (M : mm_T) (v : Int32) (o : Option (Nat × Nat)) : Prop := match o with
  | some q => mm_fd M v (some q.1) ∧ fg_ce (M.2.2.1 q.1) = q.2 + 1 ∧ q.2 < 64
  | none => mm_fd M v none ∨ ∃ k, mm_fd M v (some k) ∧ fg_on (M.2.2.1 k) = false
def sp_tray (M : mm_T) (v : Int32) (o : q_O) : Prop := ∃ t, bd_tr M.1 M.2.2.1 v t ∧ o = match t with | some k => .inl (.int (nI (fg_id (M.2.2.1 k)))) | none => .inr eIO
def sp_ex (M : mm_T) (v : Int32) (o : q_O) : Prop := ∃ t, mm_fd M v t ∧ o = .inl (.int (bI t.isSome))
def sp_fd (M : mm_T) (v : Int32) (w : Nat → Value) (o : q_O) : Prop := ∃ t, mm_fd M v t ∧ o = match t with | some k => .inl (w k) | none => .inr eNS
def sp_edge (M : mm_T) (v s : Int32) (o : q_O) : Prop := ∃ t, mm_fd M v t ∧ match t with
  | none => o = .inr eNS
  | some k => ∃ u, q_rng s 3 u ∧ o = match u with | some s' => .inl (.int (nI (fg_at (M.2.2.1 k) s'))) | none => .inr eIA
def sp_gd (M : mm_T) (v : Int32) (w : Nat → Nat → Value) (o : q_O) : Prop := ∃ t, mm_gd M v t ∧ o = match t with | some q => .inl (w q.1 q.2) | none => .inr eNS
def sp_fits (M : mm_T) (v s : Int32) (o : q_O) : Prop := ∃ t, mm_gd M v t ∧ match t with
  | none => o = .inr eNS
  | some q => ∃ u, q_rng s 3 u ∧ o = match u with | some s' => .inl (.int (bI (mm_ct M.2.2.2 q.2 s' == 1))) | none => .inr eIA
def sp_emp (M : mm_T) (y x : Int32) (o : q_O) : Prop := ∃ c, q_cell y x c ∧ o = match c with | some c => .inl (.int (bI (M.2.2.2 c).isNone)) | none => .inr eIO
def sp_fat (M : mm_T) (y x : Int32) (o : q_O) : Prop := ∃ c, q_cell y x c ∧ o = match c with
  | none => .inr eIO
  | some c => match M.2.2.2 c with | some f => .inl (.int (nI (fg_id f))) | none => .inr eNS
/-- what a question about a gap begins with -/
def sp_gap (M : mm_T) (y x : Int32) (P : Nat → q_O → Prop) (o : q_O) : Prop := ∃ c, q_cell y x c ∧ match c with
  | none => o = .inr eIO
  | some c => (mm_gap M.2.2.2 c = false ∧ o = .inr eUO) ∨ (mm_gap M.2.2.2 c = true ∧ P c o)
def sp_outl (M : mm_T) (y x : Int32) (o : q_O) : Prop := sp_gap M y x (fun c o => o = .inl (.int (nI (mm_nc M.2.2.2 c)))) o
def sp_rank (M : mm_T) (y x r : Int32) (o : q_O) : Prop := sp_gap M y x (fun c o => ∃ t, mm_gr M.1 M.2.2.1 (mm_tws M c) r t ∧ o = match t with | some k => .inl (.int (nI (fg_id (M.2.2.1 k)))) | none => .inr eNS) o
def sp_wt (M : mm_T) (v y x t : Int32) (o : q_O) : Prop := ∃ u, mm_fd M v u ∧ match u with
  | none => o = .inr eNS
  | some k => ∃ c, q_cell y x c ∧ match c with
    | none => o = .inr eIO
    | some c => ∃ t', q_rng t 3 t' ∧ match t' with
      | none => o = .inr eIA
      | some t' => (fg_on (M.2.2.1 k) = true ∧ o = .inr eIS) ∨ (fg_on (M.2.2.1 k) = false ∧ ((mm_gap M.2.2.2 c = false ∧ o = .inr eUO) ∨ (mm_gap M.2.2.2 c = true ∧ o = .inl (.int (zI (mm_wt M.2.2.2 (M.2.2.1 k) c t'))))))
def sp_bt (M : mm_T) (v y x : Int32) (o : q_O) : Prop := ∃ u, mm_fd M v u ∧ match u with
  | none => o = .inr eNS
  | some k => ∃ c, q_cell y x c ∧ match c with
    | none => o = .inr eIO
    | some c => (fg_on (M.2.2.1 k) = true ∧ o = .inr eIS) ∨ (fg_on (M.2.2.1 k) = false ∧ ((mm_gap M.2.2.2 c = false ∧ o = .inr eUO) ∨ (mm_gap M.2.2.2 c = true ∧ o = .inl (.int (nI (mm_tn M.2.2.2 (M.2.2.1 k) c))))))
theorem bd_tr_cong {n : Nat} {F F' : Nat → fg_T} {v : Int32} {o : Option Nat} (h : ∀ k, k < n → F k = F' k) (q : bd_tr n F v o) : bd_tr n F' v o := by
  have su : ∀ k, k ≤ n → mz_su (fun j => (!fg_on (F j)).toNat) k = mz_su (fun j => (!fg_on (F' j)).toNat) k := fun k hk => mz_su_cong (fun j hj => by rw [h j (by omega)])
  cases o with
  | none => exact fun k hk z => q k hk (by rw [h k hk, su k (by omega)]; exact z)
  | some k => exact ⟨q.1, by rw [← h k q.1]; exact q.2.1, by rw [← su k (Nat.le_of_lt q.1)]; exact q.2.2⟩
section CL
variable {xs : List Int32} {h : jx_H} {nx : Nat} {C : cl_T} {p : Nat → Nat} {A : Nat → fg_T} {g : Nat → Option Nat}
theorem cl_Q_h {X : jx_R} {sp : q_O → Prop} (J : cl_J h nx C) {o : q_O} (q : sp o) (e : X = q_res o h) : cl_Q h C X sp := ⟨o, h, q, e, ⟨nx, J⟩, mz_eq_rf⟩
theorem m_116 (J : cl_J h nx C) (H : bd_I h 201 C.1.1 C.1.2.1 p A g) (hF : ∀ k, k < C.1.1 → A (p k) = C.1.2.2.1 k) (v : Int32) : ∃ o, mm_fd C.1 v o ∧ jx_A 116 [.ref 200, .int v] h = (match o with | some k => some (.inl (some (.ref (bd_f 201 (p k)))), h) | none => some (.inr eNS, jx_thr h)) := by
  obtain ⟨o, hfd, e3⟩ := m_3 H v
  refine ⟨o, bd_fd_cong hF hfd, ?_⟩
  rw [a_116, cl_0 J, bd_is H]
  cases o with
  | none => rw [jx_cN_n e3]
  | some k => rw [jx_cN_e (show jx_A 3 [.ref 201, .int v] h = some (.inl (some (.ref (bd_f 201 (p k)))), h) from e3)]
theorem m_117 (J : cl_J h nx C) (H : bd_I h 201 C.1.1 C.1.2.1 p A g) (hF : ∀ k, k < C.1.1 → A (p k) = C.1.2.2.1 k) (v : Int32) : ∃ o, mm_gd C.1 v o ∧ jx_A 117 [.ref 200, .int v] h = (match o with | some q => some (.inl (some (.ref (bd_f 201 (p q.1)))), h) | none => some (.inr eNS, jx_thr h)) := by
  obtain ⟨o, hfd, e3⟩ := m_116 J H hF v
  cases o with
  | none =>
    refine ⟨none, Or.inl hfd, ?_⟩
    rw [a_117, cl_is J, jx_cA_x e3]
  | some k =>
    have hp := bd_p H (hfd.1)
    have e3' : jx_A 116 [.ref 200, .int v] h = some (.inl (some (.ref (bd_f 201 (p k)))), h) := e3
    cases ec : fg_ce (A (p k)) with
    | zero =>
      refine ⟨none, Or.inr ⟨k, hfd, by rw [← hF k hfd.1]; exact fg_on_0.mpr ec⟩, ?_⟩
      rw [a_117, cl_is J, jx_cA_e e3', bd_fis H hp, jx_cI_e (m_21 H hp), fg_on_0.mpr ec, if_pos (by decide)]
    | succ c =>
      have hc : c < 64 := by have := (bd_ok H hp).2.2.2.2; omega
      refine ⟨some (k, c), ⟨hfd, by rw [← hF k hfd.1]; exact ec, hc⟩, ?_⟩
      rw [a_117, cl_is J, jx_cA_e e3', bd_fis H hp, jx_cI_e (m_21 H hp), fg_on_1.mpr (by rw [ec]; exact Nat.succ_ne_zero c), if_neg (by decide)]
theorem m_118 (y x : Int32) (h : jx_H) : ∃ o, q_cell y x o ∧ jx_A 118 [.int y, .int x] h = (match o with | some c => some (.inl (some (.int (nI c))), h) | none => some (.inr eIO, jx_thr h)) := by
  rcases m_126r y 7 (by decide) h with ⟨i, hi, rfl, q⟩ | ⟨ht, q⟩
  · rcases m_126r x 7 (by decide) h with ⟨j, hj, rfl, q2⟩ | ⟨ht, q2⟩
    · refine ⟨some (8 * i + j), ⟨i, j, rfl, hi, rfl, hj, rfl⟩, ?_⟩
      rw [a_118, jx_cI_e (show jx_A 126 [.int (nI i), .int 7] h = _ from q), if_neg (by decide), jx_cI_e (show jx_A 126 [.int (nI j), .int 7] h = _ from q2), if_neg (by decide), mz_8]
    · refine ⟨none, Or.inr ht, ?_⟩
      rw [a_118, jx_cI_e (show jx_A 126 [.int (nI i), .int 7] h = _ from q), if_neg (by decide), jx_cI_e (show jx_A 126 [.int x, .int 7] h = _ from q2), if_pos rfl]
  · refine ⟨none, Or.inl ht, ?_⟩
    rw [a_118, jx_cI_e (show jx_A 126 [.int y, .int 7] h = _ from q), if_pos rfl]
theorem q_cell_64 {y x : Int32} {c : Nat} (q : q_cell y x (some c)) : c < 64 := by
  obtain ⟨i, j, -, hi, -, hj, rfl⟩ := q
  omega
theorem m_120 (K : mz_K xs h) (J : cl_J h nx C) (H : bd_I h 201 C.1.1 C.1.2.1 p A g) (ho : ∀ c, c < 64 → bd_o A g c = C.1.2.2.2 c) {c : Nat} (hc : c < 64) : jx_A 120 [.ref 200, .int (nI c)] h = if mm_gap C.1.2.2.2 c = true then some (.inl none, h) else some (.inr eUO, jx_thr h) := by
  rw [a_120, cl_0 J, bd_is H, jx_cI_e (m_15 K H hc), mm_gap_cong ho hc]
  cases mm_gap C.1.2.2.2 c <;> rfl
theorem m_119 (K : mz_K xs h) (J : cl_J h nx C) (H : bd_I h 201 C.1.1 C.1.2.1 p A g) (ho : ∀ c, c < 64 → bd_o A g c = C.1.2.2.2 c) (y x : Int32) : ∃ o, q_cell y x o ∧ jx_A 119 [.ref 200, .int y, .int x] h = (match o with | some c => (if mm_gap C.1.2.2.2 c = true then some (.inl (some (.int (nI c))), h) else some (.inr eUO, jx_thr h)) | none => some (.inr eIO, jx_thr h)) := by
  obtain ⟨o, q, e⟩ := m_118 y x h
  refine ⟨o, q, ?_⟩
  cases o with
  | none => rw [a_119, jx_cI_x e]
  | some c =>
    have hc := q_cell_64 q
    have e' : jx_A 118 [.int y, .int x] h = some (.inl (some (.int (nI c))), h) := e
    have e2 := m_120 K J H ho hc
    rw [a_119, jx_cI_e e', cl_is J]
    by_cases z : mm_gap C.1.2.2.2 c = true
    · rw [if_pos z] at e2
      show _ = if mm_gap C.1.2.2.2 c = true then _ else _
      rw [jx_cV_e e2, if_pos z]
    · rw [if_neg z] at e2
      show _ = if mm_gap C.1.2.2.2 c = true then _ else _
      rw [jx_cV_x e2, if_neg z]
theorem m_122 (s : Int32) (h : jx_H) : ∃ u, q_rng s 3 u ∧ jx_A 122 [.int s] h = (match u with | some _ => some (.inl none, h) | none => some (.inr eIA, jx_thr h)) := by
  rcases m_126r s 3 (by decide) h with ⟨i, hi, rfl, q⟩ | ⟨ht, q⟩
  · exact ⟨some i, ⟨rfl, hi⟩, by rw [a_122, jx_cI_e (show jx_A 126 [.int (nI i), .int 3] h = _ from q), if_neg (by decide)]⟩
  · exact ⟨none, ht, by rw [a_122, jx_cI_e (show jx_A 126 [.int s, .int 3] h = _ from q), if_pos rfl]⟩
theorem m_123 (H : bd_I h 201 C.1.1 C.1.2.1 p A g) {i : Nat} (hi : i < 20) : jx_A 123 [.ref (bd_f 201 i)] h = if fg_on (A i) = true then some (.inr eIS, jx_thr h) else some (.inl none, h) := by
  rw [a_123, bd_fis H hi, jx_cI_e (m_21 H hi)]
  cases fg_on (A i) <;> rfl
theorem m_121 (K : mz_K xs h) (J : cl_J h nx C) (H : bd_I h 201 C.1.1 C.1.2.1 p A g) (hF : ∀ k, k < C.1.1 → A (p k) = C.1.2.2.1 k) (ho : ∀ c, c < 64 → bd_o A g c = C.1.2.2.2 c) {c : Nat} (hc : c < 64) (r : Int32) :
    ∃ h' w wa co wt, mm_gr C.1.1 C.1.2.2.1 (mm_tws C.1 c) r w ∧ jx_A 121 [.ref 200, .int (nI c), .int r] h = (match w with | some k => some (.inl (some (.ref (bd_f 201 (p k)))), h') | none => some (.inr eNS, jx_thr h')) ∧ cl_J h' nx C ∧ gs_I h' 676 wa co wt (nI c) ∧ gs_L (bd_o A g) c wa co ∧ mz_eq 676 680 h h' := by
  obtain ⟨wa, co, wt, gp, G⟩ := J.2.2.2.2.2.2.1
  obtain ⟨h1, wa1, co1, x1, G1, L1, s1⟩ := m_32 K H G (by omega) hc
  have H1 := bd_eq H s1 (by omega)
  have J1 := cl_J_g J ⟨_, _, _, _, G1⟩ s1
  obtain ⟨h2, wt2, w, gr, x2, G2, s2⟩ := m_36 H1 G1 (by omega) L1 r
  have J2 := cl_J_g J1 ⟨_, _, _, _, G2⟩ s2
  refine ⟨h2, w, wa1, co1, wt2, mm_gr_cong hF (fun k hk => by
        show _ = mm_tw C.1.2.2.2 (C.1.2.2.1 k) c
        rw [mm_tw_cong ho hc, hF k hk]) gr, ?_, J2, G2, L1, mz_eq_tr s1 s2⟩
  rw [a_121, cl_4 J, cl_0 J, gs_is G, jx_cV_e x1, cl_4 J1, cl_0 J1, gs_is G1]
  cases w with
  | none => rw [jx_cN_n x2]
  | some k => rw [jx_cN_e (show jx_A 36 [.ref 676, .ref 201, .int r] h1 = some (.inl (some (.ref (bd_f 201 (p k)))), h2) from x2)]
theorem c_62 (I : cl_I h C) : jx_A 62 [.ref 200] h = some (.inl (some (.int (nI C.1.1))), h) := by
  obtain ⟨nx, J⟩ := I
  rw [a_62, cl_0 J, cl_bn J.2.1]
theorem mz_su_not (f : Nat → Bool) : ∀ n, mz_su (fun k => (f k).toNat) n + mz_su (fun k => (!f k).toNat) n = n
  | 0 => rfl
  | n + 1 => by
    have := mz_su_not f n
    show mz_su (fun k => (f k).toNat) n + (f n).toNat + (mz_su (fun k => (!f k).toNat) n + (!f n).toNat) = n + 1
    cases f n <;> simp only [Bool.toNat_true, Bool.toNat_false, Bool.not_true, Bool.not_false] <;> omega
theorem nI_sub {a b : Nat} : nI (a + b) - nI a = nI b := by
  rw [← nI_add, Int32.add_comm, Int32.add_sub_cancel]
theorem c_63 (I : cl_I h C) : jx_A 63 [.ref 200] h = some (.inl (some (.int (nI (mm_lo C.1)))), h) := by
  obtain ⟨nx, J⟩ := I
  obtain ⟨p, A, g, H, W, hF, ho⟩ := J.2.1
  have e : mz_su (fun k => (fg_on (A (p k))).toNat) C.1.1 = mz_su (fun k => (fg_on (C.1.2.2.1 k)).toNat) C.1.1 := mz_su_cong (fun k hk => by rw [hF k hk])
  have e2 := mz_su_not (fun k => fg_on (C.1.2.2.1 k)) C.1.1
  rw [a_63, cl_0 J, bd_n H, cl_0 J, bd_is H, jx_cI_e (m_4 H), e]
  congr 4
  unfold mm_lo
  generalize mz_su (fun k => (fg_on (C.1.2.2.1 k)).toNat) C.1.1 = a at *
  generalize mz_su (fun k => (!fg_on (C.1.2.2.1 k)).toNat) C.1.1 = b at *
  rw [← e2]
  exact congrArg Value.int nI_sub
theorem c_64 (I : cl_I h C) (v : Int32) : cl_Q h C (jx_A 64 [.ref 200, .int v] h) (sp_tray C.1 v) := by
  obtain ⟨nx, J⟩ := I
  obtain ⟨p, A, g, H, W, hF, ho⟩ := J.2.1
  obtain ⟨o, q, e⟩ := m_5 H v
  refine cl_Q_h J ⟨o, bd_tr_cong hF q, rfl⟩ ?_
  rw [a_64, cl_0 J, bd_is H]
  cases o with
  | none => rw [jx_cN_n e]; rfl
  | some k => rw [jx_cN_e (show jx_A 5 [.ref 201, .int v] h = some (.inl (some (.ref (bd_f 201 (p k)))), h) from e), bd_fid H (bd_p H q.1), hF k q.1]; rfl
theorem c_65 (I : cl_I h C) (v : Int32) : cl_Q h C (jx_A 65 [.ref 200, .int v] h) (sp_ex C.1 v) := by
  obtain ⟨nx, J⟩ := I
  obtain ⟨p, A, g, H, W, hF, ho⟩ := J.2.1
  obtain ⟨o, q, e⟩ := m_3 H v
  refine cl_Q_h J ⟨o, bd_fd_cong hF q, rfl⟩ ?_
  rw [a_65, cl_0 J, bd_is H]
  cases o with
  | none => rw [jx_cN_n e]; rfl
  | some k => rw [jx_cN_e (show jx_A 3 [.ref 201, .int v] h = some (.inl (some (.ref (bd_f 201 (p k)))), h) from e)]; rfl
theorem c_66 (I : cl_I h C) (v : Int32) : cl_Q h C (jx_A 66 [.ref 200, .int v] h) (sp_fd C.1 v (fun k => .int (nI (fg_co (C.1.2.2.1 k))))) := by
  obtain ⟨nx, J⟩ := I
  obtain ⟨p, A, g, H, W, hF, ho⟩ := J.2.1
  obtain ⟨o, q, e⟩ := m_116 J H hF v
  refine cl_Q_h J ⟨o, q, rfl⟩ ?_
  cases o with
  | none => rw [a_66, cl_is J, jx_cA_x e]; rfl
  | some k =>
    have ok := bd_ok H (bd_p H q.1)
    have h16 : 0 ≤ nI (fg_co (A (p k))) ∧ nI (fg_co (A (p k))) < 65536 := ⟨nI_pos' (by have := ok.2.1; omega), nI_lt (b := 65536) ok.2.1 (by decide)⟩
    rw [a_66, cl_is J, jx_cA_e (show jx_A 116 [.ref 200, .int v] h = some (.inl (some (.ref (bd_f 201 (p k)))), h) from e), bd_fco H (bd_p H q.1), if_pos h16, hF k q.1]; rfl
theorem c_67 (I : cl_I h C) (v : Int32) : cl_Q h C (jx_A 67 [.ref 200, .int v] h) (sp_fd C.1 v (fun k => .int (nI (fg_tn (C.1.2.2.1 k))))) := by
  obtain ⟨nx, J⟩ := I
  obtain ⟨p, A, g, H, W, hF, ho⟩ := J.2.1
  obtain ⟨o, q, e⟩ := m_116 J H hF v
  refine cl_Q_h J ⟨o, q, rfl⟩ ?_
  cases o with
  | none => rw [a_67, cl_is J, jx_cA_x e]; rfl
  | some k => rw [a_67, cl_is J, jx_cA_e (show jx_A 116 [.ref 200, .int v] h = some (.inl (some (.ref (bd_f 201 (p k)))), h) from e), bd_ftn H (bd_p H q.1), hF k q.1]; rfl
theorem c_68 (I : cl_I h C) (v s : Int32) : cl_Q h C (jx_A 68 [.ref 200, .int v, .int s] h) (sp_edge C.1 v s) := by
  obtain ⟨nx, J⟩ := I
  obtain ⟨p, A, g, H, W, hF, ho⟩ := J.2.1
  obtain ⟨o, q, e⟩ := m_116 J H hF v
  cases o with
  | none => exact cl_Q_h (o := .inr eNS) J ⟨none, q, rfl⟩ (by rw [a_68, cl_is J, jx_cA_x e]; rfl)
  | some k =>
    have e' : jx_A 116 [.ref 200, .int v] h = some (.inl (some (.ref (bd_f 201 (p k)))), h) := e
    obtain ⟨u, q2, e2⟩ := m_122 s h
    cases u with
    | none => exact cl_Q_h (o := .inr eIA) J ⟨some k, q, none, q2, rfl⟩ (by rw [a_68, cl_is J, jx_cA_e e', jx_cV_x e2]; rfl)
    | some s' =>
      obtain ⟨rfl, hs⟩ := q2
      exact cl_Q_h (o := .inl (.int (nI (fg_at (C.1.2.2.1 k) s')))) J ⟨some k, q, some s', ⟨rfl, hs⟩, rfl⟩ (by rw [a_68, cl_is J, jx_cA_e e', jx_cV_e e2, bd_fis H (bd_p H q.1), jx_cI_e (m_22 H (bd_p H q.1) (by omega)), hF k q.1]; rfl)
theorem c_69 (I : cl_I h C) (v : Int32) : cl_Q h C (jx_A 69 [.ref 200, .int v] h) (sp_fd C.1 v (fun k => .int (bI (fg_on (C.1.2.2.1 k))))) := by
  obtain ⟨nx, J⟩ := I
  obtain ⟨p, A, g, H, W, hF, ho⟩ := J.2.1
  obtain ⟨o, q, e⟩ := m_116 J H hF v
  refine cl_Q_h J ⟨o, q, rfl⟩ ?_
  cases o with
  | none => rw [a_69, cl_is J, jx_cA_x e]; rfl
  | some k =>
    rw [a_69, cl_is J, jx_cA_e (show jx_A 116 [.ref 200, .int v] h = some (.inl (some (.ref (bd_f 201 (p k)))), h) from e), bd_fis H (bd_p H q.1), jx_cI_e (m_21 H (bd_p H q.1)), hF k q.1, if_pos (by cases fg_on (C.1.2.2.1 k) <;> decide)]; rfl
theorem c_70 (I : cl_I h C) (v : Int32) : cl_Q h C (jx_A 70 [.ref 200, .int v] h) (sp_gd C.1 v (fun _ c => .int (nI c))) := by
  obtain ⟨nx, J⟩ := I
  obtain ⟨p, A, g, H, W, hF, ho⟩ := J.2.1
  obtain ⟨o, q, e⟩ := m_117 J H hF v
  refine cl_Q_h J ⟨o, q, rfl⟩ ?_
  cases o with
  | none => rw [a_70, cl_is J, jx_cA_x e]; rfl
  | some k => rw [a_70, cl_is J, jx_cA_e (show jx_A 117 [.ref 200, .int v] h = some (.inl (some (.ref (bd_f 201 (p k.1)))), h) from e), bd_fce H (bd_p H q.1.1), hF k.1 q.1.1, q.2.1, mz_pred]; rfl
theorem c_78 (I : cl_I h C) (y x : Int32) : cl_Q h C (jx_A 78 [.ref 200, .int y, .int x] h) (sp_emp C.1 y x) := by
  obtain ⟨nx, J⟩ := I
  obtain ⟨p, A, g, H, W, hF, ho⟩ := J.2.1
  obtain ⟨o, q, e⟩ := m_118 y x h
  refine cl_Q_h J ⟨o, q, rfl⟩ ?_
  cases o with
  | none => rw [a_78, cl_0 J, bd_gr H, jx_cI_x e]; rfl
  | some c =>
    rw [a_78, cl_0 J, bd_gr H, jx_cI_e (show jx_A 118 [.int y, .int x] h = some (.inl (some (.int (nI c))), h) from e), bd_ce H (q_cell_64 q)]
    show _ = q_res (.inl (.int (bI (C.1.2.2.2 c).isNone))) h
    rw [← ho c (q_cell_64 q)]
    unfold bd_o
    cases g c <;> rfl
theorem c_79 (I : cl_I h C) (y x : Int32) : cl_Q h C (jx_A 79 [.ref 200, .int y, .int x] h) (sp_fat C.1 y x) := by
  obtain ⟨nx, J⟩ := I
  obtain ⟨p, A, g, H, W, hF, ho⟩ := J.2.1
  obtain ⟨o, q, e⟩ := m_118 y x h
  refine cl_Q_h J ⟨o, q, rfl⟩ ?_
  cases o with
  | none => rw [a_79, cl_0 J, bd_gr H, jx_cI_x e]; rfl
  | some c =>
    rw [a_79, cl_0 J, bd_gr H, jx_cI_e (show jx_A 118 [.int y, .int x] h = some (.inl (some (.int (nI c))), h) from e), bd_ce H (q_cell_64 q)]
    show _ = q_res (match C.1.2.2.2 c with | some f => .inl (.int (nI (fg_id f))) | none => .inr eNS) h
    rw [← ho c (q_cell_64 q)]
    unfold bd_o
    cases eg : g c with
    | none => rfl
    | some i =>
      show jx_gI h (bd_f 201 i) 2 0 _ = _
      rw [bd_fid H (bd_g H (q_cell_64 q) eg)]; rfl
theorem cl_pr (K : mz_K xs h) (J : cl_J h nx C) (b : Bool) : jx_A 18 [.ref 201, .int (bI b)] h = some (.inl (some (.int (nI (mm_pr C.1 (bd_kd b))))), h) := by
  obtain ⟨p, A, g, H, W, hF, ho⟩ := J.2.1
  rw [m_18 K H W b]
  congr 4
  congr 2
  exact mz_su_cong (fun k hk => by rw [mm_es_cong ho (bd_ok H (bd_p H hk)).2.2.2.2, hF k hk])
theorem c_85 (K : mz_K xs h) (I : cl_I h C) : jx_A 85 [.ref 200] h = some (.inl (some (.int (nI (mm_pr C.1 1)))), h) := by
  obtain ⟨nx, J⟩ := I
  rw [a_85, cl_0 J, cl_bis J.2.1, jx_cI_e (show jx_A 18 [.ref 201, .int 1] h = _ from cl_pr K J true)]
  rfl
theorem c_86 (K : mz_K xs h) (I : cl_I h C) : jx_A 86 [.ref 200] h = some (.inl (some (.int (nI (mm_pr C.1 2)))), h) := by
  obtain ⟨nx, J⟩ := I
  rw [a_86, cl_0 J, cl_bis J.2.1, jx_cI_e (show jx_A 18 [.ref 201, .int 0] h = _ from cl_pr K J false)]
  rfl
theorem c_87 (K : mz_K xs h) (I : cl_I h C) (v s : Int32) : cl_Q h C (jx_A 87 [.ref 200, .int v, .int s] h) (sp_fits C.1 v s) := by
  obtain ⟨nx, J⟩ := I
  obtain ⟨p, A, g, H, W, hF, ho⟩ := J.2.1
  obtain ⟨o, q, e⟩ := m_117 J H hF v
  cases o with
  | none => exact cl_Q_h (o := .inr eNS) J ⟨none, q, rfl⟩ (by rw [a_87, cl_is J, jx_cA_x e]; rfl)
  | some k =>
    have e' : jx_A 117 [.ref 200, .int v] h = some (.inl (some (.ref (bd_f 201 (p k.1)))), h) := e
    have q' := q
    obtain ⟨q1, q2, q3⟩ := q
    obtain ⟨u, z2, e2⟩ := m_122 s h
    cases u with
    | none => exact cl_Q_h (o := .inr eIA) J ⟨some k, q', none, z2, rfl⟩ (by rw [a_87, cl_is J, jx_cA_e e', jx_cV_x e2]; rfl)
    | some s' =>
      obtain ⟨rfl, hs⟩ := z2
      have ec : fg_ce (A (p k.1)) = k.2 + 1 := by rw [hF k.1 q1.1]; exact q2
      have z := m_16 K H q3 (W.2.2 k.1 k.2 q1.1 ec) ec (s := s') (by omega) true
      rw [mm_ct_cong ho q3 (by omega)] at z
      exact cl_Q_h (o := .inl (.int (bI (mm_ct C.1.2.2.2 k.2 s' == 1)))) J ⟨some k, q', some s', ⟨rfl, hs⟩, rfl⟩ (by
        rw [a_87, cl_is J, jx_cA_e e', jx_cV_e e2, cl_0 J, bd_is H, jx_cI_e (show jx_A 16 [.ref 201, .ref (bd_f 201 (p k.1)), .int (nI s'), .int 1] h = _ from z), if_pos (by cases (mm_ct C.1.2.2.2 k.2 s' == bd_kd true) <;> decide)]; rfl)
theorem c_88 (K : mz_K xs h) (I : cl_I h C) (v : Int32) : cl_Q h C (jx_A 88 [.ref 200, .int v] h) (sp_gd C.1 v (fun _ c => .int (nI (mm_ms C.1.2.2.2 2 c)))) := by
  obtain ⟨nx, J⟩ := I
  obtain ⟨p, A, g, H, W, hF, ho⟩ := J.2.1
  obtain ⟨o, q, e⟩ := m_117 J H hF v
  refine cl_Q_h J ⟨o, q, rfl⟩ ?_
  cases o with
  | none => rw [a_88, cl_0 J, cl_is J, jx_cA_x e]; rfl
  | some k =>
    obtain ⟨q1, q2, q3⟩ := q
    have ec : fg_ce (A (p k.1)) = k.2 + 1 := by rw [hF k.1 q1.1]; exact q2
    have z := m_17 K H q3 (W.2.2 k.1 k.2 q1.1 ec) ec false
    rw [mm_ms_cong ho q3] at z
    rw [a_88, cl_0 J, cl_is J, jx_cA_e (show jx_A 117 [.ref 200, .int v] h = some (.inl (some (.ref (bd_f 201 (p k.1)))), h) from e), bd_is H, jx_cI_e (show jx_A 17 [.ref 201, .ref (bd_f 201 (p k.1)), .int 0] h = _ from z)]; rfl
theorem c_89 (K : mz_K xs h) (I : cl_I h C) (y x : Int32) : cl_Q h C (jx_A 89 [.ref 200, .int y, .int x] h) (sp_outl C.1 y x) := by
  obtain ⟨nx, J⟩ := I
  obtain ⟨p, A, g, H, W, hF, ho⟩ := J.2.1
  obtain ⟨o, q, e⟩ := m_119 K J H ho y x
  cases o with
  | none => exact cl_Q_h (o := .inr eIO) J ⟨none, q, rfl⟩ (by rw [a_89, cl_0 J, cl_is J, jx_cI_x e]; rfl)
  | some c =>
    have e' : jx_A 119 [.ref 200, .int y, .int x] h = (if mm_gap C.1.2.2.2 c = true then some (.inl (some (.int (nI c))), h) else some (.inr eUO, jx_thr h)) := e
    cases eg : mm_gap C.1.2.2.2 c with
    | false =>
      rw [eg, if_neg (by decide)] at e'
      exact cl_Q_h (o := .inr eUO) J ⟨some c, q, Or.inl ⟨eg, rfl⟩⟩ (by rw [a_89, cl_0 J, cl_is J, jx_cI_x e']; rfl)
    | true =>
      rw [eg, if_pos rfl] at e'
      exact cl_Q_h (o := .inl (.int (nI (mm_nc C.1.2.2.2 c)))) J ⟨some c, q, Or.inr ⟨eg, rfl⟩⟩ (by
        rw [a_89, cl_0 J, cl_is J, jx_cI_e e', bd_is H, jx_cI_e (m_14 K H (q_cell_64 q)), mm_nc_cong ho (q_cell_64 q)]; rfl)
theorem c_93 (K : mz_K xs h) (I : cl_I h C) (y x r : Int32) : cl_Q h C (jx_A 93 [.ref 200, .int y, .int x, .int r] h) (sp_rank C.1 y x r) := by
  obtain ⟨nx, J⟩ := I
  obtain ⟨p, A, g, H, W, hF, ho⟩ := J.2.1
  obtain ⟨o, q, e⟩ := m_119 K J H ho y x
  cases o with
  | none => exact cl_Q_h (o := .inr eIO) J ⟨none, q, rfl⟩ (by rw [a_93, cl_is J, jx_cI_x e]; rfl)
  | some c =>
    have e' : jx_A 119 [.ref 200, .int y, .int x] h = (if mm_gap C.1.2.2.2 c = true then some (.inl (some (.int (nI c))), h) else some (.inr eUO, jx_thr h)) := e
    cases eg : mm_gap C.1.2.2.2 c with
    | false =>
      rw [eg, if_neg (by decide)] at e'
      exact cl_Q_h (o := .inr eUO) J ⟨some c, q, Or.inl ⟨eg, rfl⟩⟩ (by rw [a_93, cl_is J, jx_cI_x e']; rfl)
    | true =>
      rw [eg, if_pos rfl] at e'
      obtain ⟨h1, w, wa, co, wt, gr, x1, J1, G1, L1, s1⟩ := m_121 K J H hF ho (q_cell_64 q) r
      have H1 := bd_eq H s1 (by omega)
      cases w with
      | none => exact ⟨.inr eNS, h1, ⟨some c, q, Or.inr ⟨eg, none, gr, rfl⟩⟩, by rw [a_93, cl_is J, jx_cI_e e', cl_is J, jx_cA_x x1]; rfl, ⟨nx, J1⟩, mz_eq_wd s1 (by omega) (by omega)⟩
      | some k => exact ⟨.inl (.int (nI (fg_id (C.1.2.2.1 k)))), h1, ⟨some c, q, Or.inr ⟨eg, some k, gr, rfl⟩⟩, by rw [a_93, cl_is J, jx_cI_e e', cl_is J, jx_cA_e (show jx_A 121 [.ref 200, .int (nI c), .int r] h = some (.inl (some (.ref (bd_f 201 (p k)))), h1) from x1), bd_fid H1 (bd_p H gr.1), hF k gr.1]; rfl, ⟨nx, J1⟩, mz_eq_wd s1 (by omega) (by omega)⟩
theorem c_92 (K : mz_K xs h) (I : cl_I h C) (y x : Int32) : cl_Q h C (jx_A 92 [.ref 200, .int y, .int x] h) (sp_rank C.1 y x 0) := by
  have e : jx_A 92 [.ref 200, .int y, .int x] h = jx_A 93 [.ref 200, .int y, .int x, .int 0] h := by rw [a_92, a_93]
  rw [e]
  exact c_93 K I y x 0
theorem c_90 (K : mz_K xs h) (I : cl_I h C) (v y x t : Int32) : cl_Q h C (jx_A 90 [.ref 200, .int v, .int y, .int x, .int t] h) (sp_wt C.1 v y x t) := by
  obtain ⟨nx, J⟩ := I
  obtain ⟨p, A, g, H, W, hF, ho⟩ := J.2.1
  obtain ⟨u, q0, e0⟩ := m_116 J H hF v
  cases u with
  | none => exact cl_Q_h (o := .inr eNS) J ⟨none, q0, rfl⟩ (by rw [a_90, cl_is J, jx_cA_x e0]; rfl)
  | some k =>
    have e0' : jx_A 116 [.ref 200, .int v] h = some (.inl (some (.ref (bd_f 201 (p k)))), h) := e0
    have hp := bd_p H q0.1
    obtain ⟨o, q, e⟩ := m_118 y x h
    cases o with
    | none => exact cl_Q_h (o := .inr eIO) J ⟨some k, q0, none, q, rfl⟩ (by rw [a_90, cl_is J, jx_cA_e e0', jx_cI_x e]; rfl)
    | some c =>
      have e' : jx_A 118 [.int y, .int x] h = some (.inl (some (.int (nI c))), h) := e
      have hc := q_cell_64 q
      rcases m_126r t 3 (by decide) h with ⟨t', ht, rfl, qt⟩ | ⟨ht, qt⟩
      · have e3 : jx_A 126 [.int (nI t'), .int 3] h = _ := qt
        have e4 := m_123 H hp
        cases eo : fg_on (A (p k)) with
        | true =>
          rw [eo, if_pos rfl] at e4
          exact cl_Q_h (o := .inr eIS) J ⟨some k, q0, some c, q, some t', ⟨rfl, ht⟩, Or.inl ⟨by rw [← hF k q0.1]; exact eo, rfl⟩⟩ (by rw [a_90, cl_is J, jx_cA_e e0', jx_cI_e e', jx_cI_e e3, if_neg (by decide), jx_cV_x e4]; rfl)
        | false =>
          rw [eo, if_neg (by decide)] at e4
          have eo' : fg_on (C.1.2.2.1 k) = false := by rw [← hF k q0.1]; exact eo
          have e5 := m_120 K J H ho hc
          cases eg : mm_gap C.1.2.2.2 c with
          | false =>
            rw [eg, if_neg (by decide)] at e5
            exact cl_Q_h (o := .inr eUO) J ⟨some k, q0, some c, q, some t', ⟨rfl, ht⟩, Or.inr ⟨eo', Or.inl ⟨eg, rfl⟩⟩⟩ (by rw [a_90, cl_is J, jx_cA_e e0', jx_cI_e e', jx_cI_e e3, if_neg (by decide), jx_cV_e e4, cl_is J, jx_cV_x e5]; rfl)
          | true =>
            rw [eg, if_pos rfl] at e5
            obtain ⟨wa, co, wt, gp, G⟩ := J.2.2.2.2.2.2.1
            obtain ⟨h1, wa1, co1, x1, G1, L1, s1⟩ := m_32 K H G (by omega) hc
            have H1 := bd_eq H s1 (by omega)
            have J1 := cl_J_g J ⟨_, _, _, _, G1⟩ s1
            refine ⟨.inl (.int (zI (mm_wt C.1.2.2.2 (C.1.2.2.1 k) c t'))), h1, ⟨some k, q0, some c, q, some t', ⟨rfl, ht⟩, Or.inr ⟨eo', Or.inr ⟨eg, rfl⟩⟩⟩, ?_, ⟨nx, J1⟩, mz_eq_wd s1 (by omega) (by omega)⟩
            rw [a_90, cl_is J, jx_cA_e e0', jx_cI_e e', jx_cI_e e3, if_neg (by decide), jx_cV_e e4, cl_is J, jx_cV_e e5, cl_4 J, cl_0 J, gs_is G, jx_cV_e x1, cl_4 J1, gs_is G1, jx_cI_e (m_33 H1 G1 L1 hp (by omega)), mm_wt_cong ho hc, hF k q0.1]; rfl
      · have e3 : jx_A 126 [.int t, .int 3] h = _ := qt
        exact cl_Q_h (o := .inr eIA) J ⟨some k, q0, some c, q, none, ht, rfl⟩ (by rw [a_90, cl_is J, jx_cA_e e0', jx_cI_e e', jx_cI_e e3, if_pos rfl]; rfl)
theorem c_91 (K : mz_K xs h) (I : cl_I h C) (v y x : Int32) : cl_Q h C (jx_A 91 [.ref 200, .int v, .int y, .int x] h) (sp_bt C.1 v y x) := by
  obtain ⟨nx, J⟩ := I
  obtain ⟨p, A, g, H, W, hF, ho⟩ := J.2.1
  obtain ⟨u, q0, e0⟩ := m_116 J H hF v
  cases u with
  | none => exact cl_Q_h (o := .inr eNS) J ⟨none, q0, rfl⟩ (by rw [a_91, cl_is J, jx_cA_x e0]; rfl)
  | some k =>
    have e0' : jx_A 116 [.ref 200, .int v] h = some (.inl (some (.ref (bd_f 201 (p k)))), h) := e0
    have hp := bd_p H q0.1
    obtain ⟨o, q, e⟩ := m_118 y x h
    cases o with
    | none => exact cl_Q_h (o := .inr eIO) J ⟨some k, q0, none, q, rfl⟩ (by rw [a_91, cl_is J, jx_cA_e e0', jx_cI_x e]; rfl)
    | some c =>
      have e' : jx_A 118 [.int y, .int x] h = some (.inl (some (.int (nI c))), h) := e
      have hc := q_cell_64 q
      have e4 := m_123 H hp
      cases eo : fg_on (A (p k)) with
      | true =>
        rw [eo, if_pos rfl] at e4
        exact cl_Q_h (o := .inr eIS) J ⟨some k, q0, some c, q, Or.inl ⟨by rw [← hF k q0.1]; exact eo, rfl⟩⟩ (by rw [a_91, cl_is J, jx_cA_e e0', jx_cI_e e', jx_cV_x e4]; rfl)
      | false =>
        rw [eo, if_neg (by decide)] at e4
        have eo' : fg_on (C.1.2.2.1 k) = false := by rw [← hF k q0.1]; exact eo
        have e5 := m_120 K J H ho hc
        cases eg : mm_gap C.1.2.2.2 c with
        | false =>
          rw [eg, if_neg (by decide)] at e5
          exact cl_Q_h (o := .inr eUO) J ⟨some k, q0, some c, q, Or.inr ⟨eo', Or.inl ⟨eg, rfl⟩⟩⟩ (by rw [a_91, cl_is J, jx_cA_e e0', jx_cI_e e', jx_cV_e e4, cl_is J, jx_cV_x e5]; rfl)
        | true =>
          rw [eg, if_pos rfl] at e5
          obtain ⟨wa, co, wt, gp, G⟩ := J.2.2.2.2.2.2.1
          obtain ⟨h1, wa1, co1, x1, G1, L1, s1⟩ := m_32 K H G (by omega) hc
          have H1 := bd_eq H s1 (by omega)
          have J1 := cl_J_g J ⟨_, _, _, _, G1⟩ s1
          refine ⟨.inl (.int (nI (mm_tn C.1.2.2.2 (C.1.2.2.1 k) c))), h1, ⟨some k, q0, some c, q, Or.inr ⟨eo', Or.inr ⟨eg, rfl⟩⟩⟩, ?_, ⟨nx, J1⟩, mz_eq_wd s1 (by omega) (by omega)⟩
          rw [a_91, cl_is J, jx_cA_e e0', jx_cI_e e', jx_cV_e e4, cl_is J, jx_cV_e e5, cl_4 J, cl_0 J, gs_is G, jx_cV_e x1, cl_4 J1, gs_is G1, jx_cI_e (m_34 H1 G1 L1 hp), mm_tn_cong ho hc, hF k q0.1]; rfl
end CL
end JX
