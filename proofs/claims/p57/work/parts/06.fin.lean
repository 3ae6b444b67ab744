section JX
/-- what a run in the limit needs of an instruction: it looks at finitely much -/
def jx_Fin (op : jx_Op) : Prop := ∀ (C : jx_C) (K : jx_K) (Cs : Nat → jx_C) (Ks : Nat → jx_K), (∀ m as h r, C m as h = some r → ∃ n0, ∀ n, n0 ≤ n → Cs n m as h = some r) → (∀ pc ls st h r, K pc ls st h = some r → ∃ n0, ∀ n, n0 ≤ n → Ks n pc ls st h = some r) →
  ∀ ls st h r, op C ls st h K = some r → ∃ n0, ∀ n, n0 ≤ n → op (Cs n) ls st h (Ks n) = some r
theorem fin_re {a b : Nat → jx_R} {r : jx_O} (e : ∀ n, b n = a n) (h : ∃ n0, ∀ n, n0 ≤ n → a n = some r) : ∃ n0, ∀ n, n0 ≤ n → b n = some r := by
  obtain ⟨n0, h⟩ := h
  exact ⟨n0, fun n hn => (e n).trans (h n hn)⟩
theorem fin_re2 {a b c : Nat → jx_R} {r r' : jx_O} (h : ∃ n0, ∀ n, n0 ≤ n → a n = some r) (h2 : ∃ n0, ∀ n, n0 ≤ n → c n = some r') (e : ∀ n, c n = some r' → b n = a n) : ∃ n0, ∀ n, n0 ≤ n → b n = some r := by
  obtain ⟨n0, h⟩ := h
  obtain ⟨n1, h2⟩ := h2
  exact ⟨n0 + n1, fun n hn => (e n (h2 n (by omega))).trans (h n (by omega))⟩
theorem fin_re3 {b c : Nat → jx_R} {r r' : jx_O} (h2 : ∃ n0, ∀ n, n0 ≤ n → c n = some r') (e : ∀ n, c n = some r' → b n = some r) : ∃ n0, ∀ n, n0 ≤ n → b n = some r := by
  obtain ⟨n1, h2⟩ := h2
  exact ⟨n1, fun n hn => e n (h2 n hn)⟩
theorem fin_ic (v : Int32) (nx : Nat) : jx_Fin (o_ic v nx) := by
  intro C K Cs Ks hC hK ls st h r hr
  unfold o_ic at hr ⊢
  first | exact hK _ _ _ _ _ hr | exact ⟨0, fun _ _ => hr⟩ | cases hr
theorem fin_lc (v : Int64) (nx : Nat) : jx_Fin (o_lc v nx) := by
  intro C K Cs Ks hC hK ls st h r hr
  unfold o_lc at hr ⊢
  first | exact hK _ _ _ _ _ hr | exact ⟨0, fun _ _ => hr⟩ | cases hr
theorem fin_fc (v : UInt32) (nx : Nat) : jx_Fin (o_fc v nx) := by
  intro C K Cs Ks hC hK ls st h r hr
  unfold o_fc at hr ⊢
  first | exact hK _ _ _ _ _ hr | exact ⟨0, fun _ _ => hr⟩ | cases hr
theorem fin_dc (v : UInt64) (nx : Nat) : jx_Fin (o_dc v nx) := by
  intro C K Cs Ks hC hK ls st h r hr
  unfold o_dc at hr ⊢
  first | exact hK _ _ _ _ _ hr | exact ⟨0, fun _ _ => hr⟩ | cases hr
theorem fin_rc (a nx : Nat) : jx_Fin (o_rc a nx) := by
  intro C K Cs Ks hC hK ls st h r hr
  unfold o_rc at hr ⊢
  first | exact hK _ _ _ _ _ hr | exact ⟨0, fun _ _ => hr⟩ | cases hr
theorem fin_jc (nx : Nat) : jx_Fin (o_jc nx) := by
  intro C K Cs Ks hC hK ls st h r hr
  unfold o_jc at hr ⊢
  first | exact hK _ _ _ _ _ hr | exact ⟨0, fun _ _ => hr⟩ | cases hr
theorem fin_nc (nx : Nat) : jx_Fin (o_nc nx) := by
  intro C K Cs Ks hC hK ls st h r hr
  unfold o_nc at hr ⊢
  first | exact hK _ _ _ _ _ hr | exact ⟨0, fun _ _ => hr⟩ | cases hr
theorem fin_il (i nx : Nat) : jx_Fin (o_il i nx) := by
  intro C K Cs Ks hC hK ls st h r hr
  unfold o_il at hr ⊢
  split at hr <;> first | exact hK _ _ _ _ _ hr | exact ⟨0, fun _ _ => hr⟩ | cases hr
theorem fin_ll (i nx : Nat) : jx_Fin (o_ll i nx) := by
  intro C K Cs Ks hC hK ls st h r hr
  unfold o_ll at hr ⊢
  split at hr <;> first | exact hK _ _ _ _ _ hr | exact ⟨0, fun _ _ => hr⟩ | cases hr
theorem fin_fl (i nx : Nat) : jx_Fin (o_fl i nx) := by
  intro C K Cs Ks hC hK ls st h r hr
  unfold o_fl at hr ⊢
  split at hr <;> first | exact hK _ _ _ _ _ hr | exact ⟨0, fun _ _ => hr⟩ | cases hr
theorem fin_dl (i nx : Nat) : jx_Fin (o_dl i nx) := by
  intro C K Cs Ks hC hK ls st h r hr
  unfold o_dl at hr ⊢
  split at hr <;> first | exact hK _ _ _ _ _ hr | exact ⟨0, fun _ _ => hr⟩ | cases hr
theorem fin_al (i nx : Nat) : jx_Fin (o_al i nx) := by
  intro C K Cs Ks hC hK ls st h r hr
  unfold o_al at hr ⊢
  split at hr <;> first | exact hK _ _ _ _ _ hr | exact ⟨0, fun _ _ => hr⟩ | cases hr
theorem fin_is (i nx : Nat) : jx_Fin (o_is i nx) := by
  intro C K Cs Ks hC hK ls st h r hr
  unfold o_is at hr ⊢
  split at hr <;> first | exact hK _ _ _ _ _ hr | exact ⟨0, fun _ _ => hr⟩ | cases hr
theorem fin_ls (i nx : Nat) : jx_Fin (o_ls i nx) := by
  intro C K Cs Ks hC hK ls st h r hr
  unfold o_ls at hr ⊢
  split at hr <;> first | exact hK _ _ _ _ _ hr | exact ⟨0, fun _ _ => hr⟩ | cases hr
theorem fin_fs (i nx : Nat) : jx_Fin (o_fs i nx) := by
  intro C K Cs Ks hC hK ls st h r hr
  unfold o_fs at hr ⊢
  split at hr <;> first | exact hK _ _ _ _ _ hr | exact ⟨0, fun _ _ => hr⟩ | cases hr
theorem fin_ds (i nx : Nat) : jx_Fin (o_ds i nx) := by
  intro C K Cs Ks hC hK ls st h r hr
  unfold o_ds at hr ⊢
  split at hr <;> first | exact hK _ _ _ _ _ hr | exact ⟨0, fun _ _ => hr⟩ | cases hr
theorem fin_as (i nx : Nat) : jx_Fin (o_as i nx) := by
  intro C K Cs Ks hC hK ls st h r hr
  unfold o_as at hr ⊢
  split at hr <;> first | exact hK _ _ _ _ _ hr | exact ⟨0, fun _ _ => hr⟩ | cases hr
theorem fin_aj (i nx : Nat) : jx_Fin (o_aj i nx) := by
  intro C K Cs Ks hC hK ls st h r hr
  unfold o_aj at hr ⊢
  split at hr <;> first | exact hK _ _ _ _ _ hr | exact ⟨0, fun _ _ => hr⟩ | cases hr
theorem fin_inc (i : Nat) (n : Int32) (nx : Nat) : jx_Fin (o_inc i n nx) := by
  intro C K Cs Ks hC hK ls st h r hr
  unfold o_inc at hr ⊢
  split at hr <;> first | exact hK _ _ _ _ _ hr | exact ⟨0, fun _ _ => hr⟩ | cases hr
theorem fin_b2 (f : Int32 → Int32 → Int32) (nx : Nat) : jx_Fin (o_b2 f nx) := by
  intro C K Cs Ks hC hK ls st h r hr
  unfold o_b2 at hr ⊢
  split at hr <;> first | exact hK _ _ _ _ _ hr | exact ⟨0, fun _ _ => hr⟩ | cases hr
theorem fin_B2 (f : Int64 → Int64 → Int64) (nx : Nat) : jx_Fin (o_B2 f nx) := by
  intro C K Cs Ks hC hK ls st h r hr
  unfold o_B2 at hr ⊢
  split at hr <;> first | exact hK _ _ _ _ _ hr | exact ⟨0, fun _ _ => hr⟩ | cases hr
theorem fin_Sh (f : Int64 → Int32 → Int64) (nx : Nat) : jx_Fin (o_Sh f nx) := by
  intro C K Cs Ks hC hK ls st h r hr
  unfold o_Sh at hr ⊢
  split at hr <;> first | exact hK _ _ _ _ _ hr | exact ⟨0, fun _ _ => hr⟩ | cases hr
theorem fin_u (f : Int32 → Int32) (nx : Nat) : jx_Fin (o_u f nx) := by
  intro C K Cs Ks hC hK ls st h r hr
  unfold o_u at hr ⊢
  split at hr <;> first | exact hK _ _ _ _ _ hr | exact ⟨0, fun _ _ => hr⟩ | cases hr
theorem fin_i2l (nx : Nat) : jx_Fin (o_i2l nx) := by
  intro C K Cs Ks hC hK ls st h r hr
  unfold o_i2l at hr ⊢
  split at hr <;> first | exact hK _ _ _ _ _ hr | exact ⟨0, fun _ _ => hr⟩ | cases hr
theorem fin_l2i (nx : Nat) : jx_Fin (o_l2i nx) := by
  intro C K Cs Ks hC hK ls st h r hr
  unfold o_l2i at hr ⊢
  split at hr <;> first | exact hK _ _ _ _ _ hr | exact ⟨0, fun _ _ => hr⟩ | cases hr
theorem fin_lcmp (nx : Nat) : jx_Fin (o_lcmp nx) := by
  intro C K Cs Ks hC hK ls st h r hr
  unfold o_lcmp at hr ⊢
  split at hr <;> first | exact hK _ _ _ _ _ hr | exact ⟨0, fun _ _ => hr⟩ | cases hr
theorem fin_i2f (nx : Nat) : jx_Fin (o_i2f nx) := by
  intro C K Cs Ks hC hK ls st h r hr
  unfold o_i2f at hr ⊢
  split at hr <;> first | exact hK _ _ _ _ _ hr | exact ⟨0, fun _ _ => hr⟩ | cases hr
theorem fin_i2d (nx : Nat) : jx_Fin (o_i2d nx) := by
  intro C K Cs Ks hC hK ls st h r hr
  unfold o_i2d at hr ⊢
  split at hr <;> first | exact hK _ _ _ _ _ hr | exact ⟨0, fun _ _ => hr⟩ | cases hr
theorem fin_f2i (nx : Nat) : jx_Fin (o_f2i nx) := by
  intro C K Cs Ks hC hK ls st h r hr
  unfold o_f2i at hr ⊢
  split at hr <;> first | exact hK _ _ _ _ _ hr | exact ⟨0, fun _ _ => hr⟩ | cases hr
theorem fin_fcmp (o : CmpOp) (nx : Nat) : jx_Fin (o_fcmp o nx) := by
  intro C K Cs Ks hC hK ls st h r hr
  unfold o_fcmp at hr ⊢
  split at hr <;> first | exact hK _ _ _ _ _ hr | exact ⟨0, fun _ _ => hr⟩ | cases hr
theorem fin_dcmp (o : CmpOp) (nx : Nat) : jx_Fin (o_dcmp o nx) := by
  intro C K Cs Ks hC hK ls st h r hr
  unfold o_dcmp at hr ⊢
  split at hr <;> first | exact hK _ _ _ _ _ hr | exact ⟨0, fun _ _ => hr⟩ | cases hr
theorem fin_dup (nx : Nat) : jx_Fin (o_dup nx) := by
  intro C K Cs Ks hC hK ls st h r hr
  unfold o_dup at hr ⊢
  split at hr <;> first | exact hK _ _ _ _ _ hr | exact ⟨0, fun _ _ => hr⟩ | cases hr
theorem fin_d11 (nx : Nat) : jx_Fin (o_d11 nx) := by
  intro C K Cs Ks hC hK ls st h r hr
  unfold o_d11 at hr ⊢
  split at hr <;> first | exact hK _ _ _ _ _ hr | exact ⟨0, fun _ _ => hr⟩ | cases hr
theorem fin_pop (nx : Nat) : jx_Fin (o_pop nx) := by
  intro C K Cs Ks hC hK ls st h r hr
  unfold o_pop at hr ⊢
  split at hr <;> first | exact hK _ _ _ _ _ hr | exact ⟨0, fun _ _ => hr⟩ | cases hr
theorem fin_go (t : Nat) : jx_Fin (o_go t) := by
  intro C K Cs Ks hC hK ls st h r hr
  unfold o_go at hr ⊢
  first | exact hK _ _ _ _ _ hr | exact ⟨0, fun _ _ => hr⟩ | cases hr
theorem fin_nul (t nx : Nat) : jx_Fin (o_nul t nx) := by
  intro C K Cs Ks hC hK ls st h r hr
  unfold o_nul at hr ⊢
  split at hr <;> first | exact hK _ _ _ _ _ hr | exact ⟨0, fun _ _ => hr⟩ | cases hr
theorem fin_nnl (t nx : Nat) : jx_Fin (o_nnl t nx) := by
  intro C K Cs Ks hC hK ls st h r hr
  unfold o_nnl at hr ⊢
  split at hr <;> first | exact hK _ _ _ _ _ hr | exact ⟨0, fun _ _ => hr⟩ | cases hr
theorem fin_bad  : jx_Fin (o_bad ) := by
  intro C K Cs Ks hC hK ls st h r hr
  unfold o_bad at hr ⊢
  first | exact hK _ _ _ _ _ hr | exact ⟨0, fun _ _ => hr⟩ | cases hr
theorem fin_rV  : jx_Fin (o_rV ) := by
  intro C K Cs Ks hC hK ls st h r hr
  unfold o_rV at hr ⊢
  split at hr <;> first | exact hK _ _ _ _ _ hr | exact ⟨0, fun _ _ => hr⟩ | cases hr
theorem fin_rI  : jx_Fin (o_rI ) := by
  intro C K Cs Ks hC hK ls st h r hr
  unfold o_rI at hr ⊢
  split at hr <;> first | exact hK _ _ _ _ _ hr | exact ⟨0, fun _ _ => hr⟩ | cases hr
theorem fin_rL  : jx_Fin (o_rL ) := by
  intro C K Cs Ks hC hK ls st h r hr
  unfold o_rL at hr ⊢
  split at hr <;> first | exact hK _ _ _ _ _ hr | exact ⟨0, fun _ _ => hr⟩ | cases hr
theorem fin_rF  : jx_Fin (o_rF ) := by
  intro C K Cs Ks hC hK ls st h r hr
  unfold o_rF at hr ⊢
  split at hr <;> first | exact hK _ _ _ _ _ hr | exact ⟨0, fun _ _ => hr⟩ | cases hr
theorem fin_rD  : jx_Fin (o_rD ) := by
  intro C K Cs Ks hC hK ls st h r hr
  unfold o_rD at hr ⊢
  split at hr <;> first | exact hK _ _ _ _ _ hr | exact ⟨0, fun _ _ => hr⟩ | cases hr
theorem fin_rA  : jx_Fin (o_rA ) := by
  intro C K Cs Ks hC hK ls st h r hr
  unfold o_rA at hr ⊢
  split at hr <;> first | exact hK _ _ _ _ _ hr | exact ⟨0, fun _ _ => hr⟩ | cases hr
theorem fin_new (t : Nat) (fs : List Value) (nx : Nat) : jx_Fin (o_new t fs nx) := by
  intro C K Cs Ks hC hK ls st h r hr
  unfold o_new at hr ⊢
  split at hr
  · rename_i hc
    simp only [if_pos hc]
    exact hK _ _ _ _ _ hr
  · cases hr
theorem fin_div (nx : Nat) : jx_Fin (o_div nx) := by
  intro C K Cs Ks hC hK ls st h r hr
  unfold o_div at hr ⊢
  split at hr
  · try dsimp only at hr ⊢
    split at hr
    all_goals (rename_i hc; first | rw [if_pos hc] | rw [if_neg hc] | skip)
    all_goals first | exact hK _ _ _ _ _ hr | exact ⟨0, fun _ _ => hr⟩ | cases hr | simpa only [if_pos hc] using hK _ _ _ _ _ hr | simpa only [if_neg hc] using hK _ _ _ _ _ hr
  · cases hr
theorem fin_rem (nx : Nat) : jx_Fin (o_rem nx) := by
  intro C K Cs Ks hC hK ls st h r hr
  unfold o_rem at hr ⊢
  split at hr
  · try dsimp only at hr ⊢
    split at hr
    all_goals (rename_i hc; first | rw [if_pos hc] | rw [if_neg hc] | skip)
    all_goals first | exact hK _ _ _ _ _ hr | exact ⟨0, fun _ _ => hr⟩ | cases hr | simpa only [if_pos hc] using hK _ _ _ _ _ hr | simpa only [if_neg hc] using hK _ _ _ _ _ hr
  · cases hr
theorem fin_na (t : Nat) (v : Value) (nx : Nat) : jx_Fin (o_na t v nx) := by
  intro C K Cs Ks hC hK ls st h r hr
  unfold o_na at hr ⊢
  split at hr
  · try dsimp only at hr ⊢
    split at hr
    all_goals (rename_i hc; first | rw [if_pos hc] | rw [if_neg hc] | skip)
    all_goals first | exact hK _ _ _ _ _ hr | exact ⟨0, fun _ _ => hr⟩ | cases hr | simpa only [if_pos hc] using hK _ _ _ _ _ hr | simpa only [if_neg hc] using hK _ _ _ _ _ hr
  · cases hr
theorem fin_rZ  : jx_Fin (o_rZ ) := by
  intro C K Cs Ks hC hK ls st h r hr
  unfold o_rZ at hr ⊢
  split at hr
  · try dsimp only at hr ⊢
    split at hr
    all_goals (rename_i hc; first | rw [if_pos hc] | rw [if_neg hc] | skip)
    all_goals first | exact hK _ _ _ _ _ hr | exact ⟨0, fun _ _ => hr⟩ | cases hr | simpa only [if_pos hc] using hK _ _ _ _ _ hr | simpa only [if_neg hc] using hK _ _ _ _ _ hr
  · cases hr
theorem fin_rC  : jx_Fin (o_rC ) := by
  intro C K Cs Ks hC hK ls st h r hr
  unfold o_rC at hr ⊢
  split at hr
  · try dsimp only at hr ⊢
    split at hr
    all_goals (rename_i hc; first | rw [if_pos hc] | rw [if_neg hc] | skip)
    all_goals first | exact hK _ _ _ _ _ hr | exact ⟨0, fun _ _ => hr⟩ | cases hr | simpa only [if_pos hc] using hK _ _ _ _ _ hr | simpa only [if_neg hc] using hK _ _ _ _ _ hr
  · cases hr
theorem fin_rB  : jx_Fin (o_rB ) := by
  intro C K Cs Ks hC hK ls st h r hr
  unfold o_rB at hr ⊢
  split at hr
  · try dsimp only at hr ⊢
    split at hr
    all_goals (rename_i hc; first | rw [if_pos hc] | rw [if_neg hc] | skip)
    all_goals first | exact hK _ _ _ _ _ hr | exact ⟨0, fun _ _ => hr⟩ | cases hr | simpa only [if_pos hc] using hK _ _ _ _ _ hr | simpa only [if_neg hc] using hK _ _ _ _ _ hr
  · cases hr
theorem fin_eq (t nx : Nat) : jx_Fin (o_eq t nx) := by
  intro C K Cs Ks hC hK ls st h r hr
  unfold o_eq at hr ⊢
  split at hr
  · try dsimp only at hr ⊢
    split at hr
    all_goals (rename_i hc; first | rw [if_pos hc] | rw [if_neg hc] | skip)
    all_goals first | exact hK _ _ _ _ _ hr | exact ⟨0, fun _ _ => hr⟩ | cases hr | simpa only [if_pos hc] using hK _ _ _ _ _ hr | simpa only [if_neg hc] using hK _ _ _ _ _ hr
  · cases hr
theorem fin_ne (t nx : Nat) : jx_Fin (o_ne t nx) := by
  intro C K Cs Ks hC hK ls st h r hr
  unfold o_ne at hr ⊢
  split at hr
  · try dsimp only at hr ⊢
    split at hr
    all_goals (rename_i hc; first | rw [if_pos hc] | rw [if_neg hc] | skip)
    all_goals first | exact hK _ _ _ _ _ hr | exact ⟨0, fun _ _ => hr⟩ | cases hr | simpa only [if_pos hc] using hK _ _ _ _ _ hr | simpa only [if_neg hc] using hK _ _ _ _ _ hr
  · cases hr
theorem fin_lt (t nx : Nat) : jx_Fin (o_lt t nx) := by
  intro C K Cs Ks hC hK ls st h r hr
  unfold o_lt at hr ⊢
  split at hr
  · try dsimp only at hr ⊢
    split at hr
    all_goals (rename_i hc; first | rw [if_pos hc] | rw [if_neg hc] | skip)
    all_goals first | exact hK _ _ _ _ _ hr | exact ⟨0, fun _ _ => hr⟩ | cases hr | simpa only [if_pos hc] using hK _ _ _ _ _ hr | simpa only [if_neg hc] using hK _ _ _ _ _ hr
  · cases hr
theorem fin_ge (t nx : Nat) : jx_Fin (o_ge t nx) := by
  intro C K Cs Ks hC hK ls st h r hr
  unfold o_ge at hr ⊢
  split at hr
  · try dsimp only at hr ⊢
    split at hr
    all_goals (rename_i hc; first | rw [if_pos hc] | rw [if_neg hc] | skip)
    all_goals first | exact hK _ _ _ _ _ hr | exact ⟨0, fun _ _ => hr⟩ | cases hr | simpa only [if_pos hc] using hK _ _ _ _ _ hr | simpa only [if_neg hc] using hK _ _ _ _ _ hr
  · cases hr
theorem fin_gt (t nx : Nat) : jx_Fin (o_gt t nx) := by
  intro C K Cs Ks hC hK ls st h r hr
  unfold o_gt at hr ⊢
  split at hr
  · try dsimp only at hr ⊢
    split at hr
    all_goals (rename_i hc; first | rw [if_pos hc] | rw [if_neg hc] | skip)
    all_goals first | exact hK _ _ _ _ _ hr | exact ⟨0, fun _ _ => hr⟩ | cases hr | simpa only [if_pos hc] using hK _ _ _ _ _ hr | simpa only [if_neg hc] using hK _ _ _ _ _ hr
  · cases hr
theorem fin_le (t nx : Nat) : jx_Fin (o_le t nx) := by
  intro C K Cs Ks hC hK ls st h r hr
  unfold o_le at hr ⊢
  split at hr
  · try dsimp only at hr ⊢
    split at hr
    all_goals (rename_i hc; first | rw [if_pos hc] | rw [if_neg hc] | skip)
    all_goals first | exact hK _ _ _ _ _ hr | exact ⟨0, fun _ _ => hr⟩ | cases hr | simpa only [if_pos hc] using hK _ _ _ _ _ hr | simpa only [if_neg hc] using hK _ _ _ _ _ hr
  · cases hr
theorem fin_ceq (t nx : Nat) : jx_Fin (o_ceq t nx) := by
  intro C K Cs Ks hC hK ls st h r hr
  unfold o_ceq at hr ⊢
  split at hr
  · try dsimp only at hr ⊢
    split at hr
    all_goals (rename_i hc; first | rw [if_pos hc] | rw [if_neg hc] | skip)
    all_goals first | exact hK _ _ _ _ _ hr | exact ⟨0, fun _ _ => hr⟩ | cases hr | simpa only [if_pos hc] using hK _ _ _ _ _ hr | simpa only [if_neg hc] using hK _ _ _ _ _ hr
  · cases hr
theorem fin_cne (t nx : Nat) : jx_Fin (o_cne t nx) := by
  intro C K Cs Ks hC hK ls st h r hr
  unfold o_cne at hr ⊢
  split at hr
  · try dsimp only at hr ⊢
    split at hr
    all_goals (rename_i hc; first | rw [if_pos hc] | rw [if_neg hc] | skip)
    all_goals first | exact hK _ _ _ _ _ hr | exact ⟨0, fun _ _ => hr⟩ | cases hr | simpa only [if_pos hc] using hK _ _ _ _ _ hr | simpa only [if_neg hc] using hK _ _ _ _ _ hr
  · cases hr
theorem fin_clt (t nx : Nat) : jx_Fin (o_clt t nx) := by
  intro C K Cs Ks hC hK ls st h r hr
  unfold o_clt at hr ⊢
  split at hr
  · try dsimp only at hr ⊢
    split at hr
    all_goals (rename_i hc; first | rw [if_pos hc] | rw [if_neg hc] | skip)
    all_goals first | exact hK _ _ _ _ _ hr | exact ⟨0, fun _ _ => hr⟩ | cases hr | simpa only [if_pos hc] using hK _ _ _ _ _ hr | simpa only [if_neg hc] using hK _ _ _ _ _ hr
  · cases hr
theorem fin_cge (t nx : Nat) : jx_Fin (o_cge t nx) := by
  intro C K Cs Ks hC hK ls st h r hr
  unfold o_cge at hr ⊢
  split at hr
  · try dsimp only at hr ⊢
    split at hr
    all_goals (rename_i hc; first | rw [if_pos hc] | rw [if_neg hc] | skip)
    all_goals first | exact hK _ _ _ _ _ hr | exact ⟨0, fun _ _ => hr⟩ | cases hr | simpa only [if_pos hc] using hK _ _ _ _ _ hr | simpa only [if_neg hc] using hK _ _ _ _ _ hr
  · cases hr
theorem fin_cgt (t nx : Nat) : jx_Fin (o_cgt t nx) := by
  intro C K Cs Ks hC hK ls st h r hr
  unfold o_cgt at hr ⊢
  split at hr
  · try dsimp only at hr ⊢
    split at hr
    all_goals (rename_i hc; first | rw [if_pos hc] | rw [if_neg hc] | skip)
    all_goals first | exact hK _ _ _ _ _ hr | exact ⟨0, fun _ _ => hr⟩ | cases hr | simpa only [if_pos hc] using hK _ _ _ _ _ hr | simpa only [if_neg hc] using hK _ _ _ _ _ hr
  · cases hr
theorem fin_cle (t nx : Nat) : jx_Fin (o_cle t nx) := by
  intro C K Cs Ks hC hK ls st h r hr
  unfold o_cle at hr ⊢
  split at hr
  · try dsimp only at hr ⊢
    split at hr
    all_goals (rename_i hc; first | rw [if_pos hc] | rw [if_neg hc] | skip)
    all_goals first | exact hK _ _ _ _ _ hr | exact ⟨0, fun _ _ => hr⟩ | cases hr | simpa only [if_pos hc] using hK _ _ _ _ _ hr | simpa only [if_neg hc] using hK _ _ _ _ _ hr
  · cases hr
theorem fin_ane (t nx : Nat) : jx_Fin (o_ane t nx) := by
  intro C K Cs Ks hC hK ls st h r hr
  unfold o_ane at hr ⊢
  split at hr
  · try dsimp only at hr ⊢
    split at hr
    · rename_i hc
      split at hr
      · rename_i hd; simp only [if_pos hc, if_pos hd]; exact hK _ _ _ _ _ hr
      · rename_i hd; simp only [if_pos hc, if_neg hd]; exact hK _ _ _ _ _ hr
    · cases hr
  · cases hr
theorem fin_sw (d : Nat) (ts : List (Int32 × Nat)) : jx_Fin (o_sw d ts) := by
  intro C K Cs Ks hC hK ls st h r hr
  unfold o_sw at hr ⊢
  split at hr
  · obtain ⟨t, h1, h2⟩ := jx_sw_i hr
    exact fin_re (fun n => h2 _) (hK _ _ _ _ _ h1)
  · cases hr
theorem fin_gI (t k nx : Nat) : jx_Fin (o_gI t k nx) := by
  intro C K Cs Ks hC hK ls st h r hr
  unfold o_gI at hr ⊢
  split at hr
  · skip
    obtain ⟨fs, x, h1, h2, h3⟩ := jx_gI_i hr
    exact fin_re (fun n => (jx_gI_e h1 h2 _)) (hK _ _ _ _ _ h3)
  · cases hr
theorem fin_gA (t k nx : Nat) : jx_Fin (o_gA t k nx) := by
  intro C K Cs Ks hC hK ls st h r hr
  unfold o_gA at hr ⊢
  split at hr
  · skip
    obtain ⟨fs, x, h1, h2, h3⟩ := jx_gA_i hr
    exact fin_re (fun n => (jx_gA_e h1 h2 _)) (hK _ _ _ _ _ h3)
  · cases hr
theorem fin_pI (t k nx : Nat) : jx_Fin (o_pI t k nx) := by
  intro C K Cs Ks hC hK ls st h r hr
  unfold o_pI at hr ⊢
  split at hr
  · skip
    obtain ⟨fs, h1, h2, h4, h3⟩ := jx_pt_i hr
    exact fin_re (fun n => (jx_pt_e h1 h2 h4 _)) (hK _ _ _ _ _ h3)
  · cases hr
theorem fin_lI (t nx : Nat) : jx_Fin (o_lI t nx) := by
  intro C K Cs Ks hC hK ls st h r hr
  unfold o_lI at hr ⊢
  split at hr
  · skip
    obtain ⟨vs, x, h1, h0, h2, h3⟩ := jx_lI_i hr
    exact fin_re (fun n => (jx_lI_e h1 h0 h2 _)) (hK _ _ _ _ _ h3)
  · cases hr
theorem fin_lL (t nx : Nat) : jx_Fin (o_lL t nx) := by
  intro C K Cs Ks hC hK ls st h r hr
  unfold o_lL at hr ⊢
  split at hr
  · skip
    obtain ⟨vs, x, h1, h0, h2, h3⟩ := jx_lL_i hr
    exact fin_re (fun n => (jx_lL_e h1 h0 h2 _)) (hK _ _ _ _ _ h3)
  · cases hr
theorem fin_lD (t nx : Nat) : jx_Fin (o_lD t nx) := by
  intro C K Cs Ks hC hK ls st h r hr
  unfold o_lD at hr ⊢
  split at hr
  · skip
    obtain ⟨vs, x, h1, h0, h2, h3⟩ := jx_lD_i hr
    exact fin_re (fun n => (jx_lD_e h1 h0 h2 _)) (hK _ _ _ _ _ h3)
  · cases hr
theorem fin_lA (t nx : Nat) : jx_Fin (o_lA t nx) := by
  intro C K Cs Ks hC hK ls st h r hr
  unfold o_lA at hr ⊢
  split at hr
  · skip
    obtain ⟨vs, x, h1, h0, h2, h3⟩ := jx_lA_i hr
    exact fin_re (fun n => (jx_lA_e h1 h0 h2 _)) (hK _ _ _ _ _ h3)
  · cases hr
theorem fin_sI (t nx : Nat) : jx_Fin (o_sI t nx) := by
  intro C K Cs Ks hC hK ls st h r hr
  unfold o_sI at hr ⊢
  split at hr
  · skip
    obtain ⟨vs, h1, h0, h2, h4, h3⟩ := jx_st_i hr
    exact fin_re (fun n => (jx_st_e h1 h0 h2 h4 _)) (hK _ _ _ _ _ h3)
  · cases hr
theorem fin_sC (t nx : Nat) : jx_Fin (o_sC t nx) := by
  intro C K Cs Ks hC hK ls st h r hr
  unfold o_sC at hr ⊢
  split at hr
  · skip
    obtain ⟨vs, h1, h0, h2, h4, h3⟩ := jx_st_i hr
    exact fin_re (fun n => (jx_st_e h1 h0 h2 h4 _)) (hK _ _ _ _ _ h3)
  · cases hr
theorem fin_sL (t nx : Nat) : jx_Fin (o_sL t nx) := by
  intro C K Cs Ks hC hK ls st h r hr
  unfold o_sL at hr ⊢
  split at hr
  · skip
    obtain ⟨vs, h1, h0, h2, h4, h3⟩ := jx_st_i hr
    exact fin_re (fun n => (jx_st_e h1 h0 h2 h4 _)) (hK _ _ _ _ _ h3)
  · cases hr
theorem fin_sD (t nx : Nat) : jx_Fin (o_sD t nx) := by
  intro C K Cs Ks hC hK ls st h r hr
  unfold o_sD at hr ⊢
  split at hr
  · skip
    obtain ⟨vs, h1, h0, h2, h4, h3⟩ := jx_st_i hr
    exact fin_re (fun n => (jx_st_e h1 h0 h2 h4 _)) (hK _ _ _ _ _ h3)
  · cases hr
theorem fin_len (nx : Nat) : jx_Fin (o_len nx) := by
  intro C K Cs Ks hC hK ls st h r hr
  unfold o_len at hr ⊢
  split at hr
  · skip
    obtain ⟨t, vs, h1, h2, h3⟩ := jx_sz_i hr
    exact fin_re (fun n => (jx_sz_e h1 h2 _)) (hK _ _ _ _ _ h3)
  · cases hr
theorem fin_cp (t nx : Nat) : jx_Fin (o_cp t nx) := by
  intro C K Cs Ks hC hK ls st h r hr
  unfold o_cp at hr ⊢
  split at hr
  · obtain ⟨hk, hr⟩ := jx_ck_i hr
    obtain ⟨us, vs, h1, h2, hc, h3⟩ := jx_cp_i (by assumption)
    exact fin_re (fun n => (jx_ck_e hk _).trans (jx_cp_e h1 h2 hc _)) (hK _ _ _ _ _ h3)
  · cases hr
theorem fin_pZ (t k nx : Nat) : jx_Fin (o_pZ t k nx) := by
  intro C K Cs Ks hC hK ls st h r hr
  unfold o_pZ at hr ⊢
  split at hr
  · try dsimp only at hr ⊢
    split at hr
    · rename_i hc
      obtain ⟨fs, h1, h2, h4, h3⟩ := jx_pt_i hr
      simp only [if_pos hc]
      exact fin_re (fun n => jx_pt_e h1 h2 h4 _) (hK _ _ _ _ _ h3)
    · cases hr
  · cases hr
theorem fin_pC (t k nx : Nat) : jx_Fin (o_pC t k nx) := by
  intro C K Cs Ks hC hK ls st h r hr
  unfold o_pC at hr ⊢
  split at hr
  · try dsimp only at hr ⊢
    split at hr
    · rename_i hc
      obtain ⟨fs, h1, h2, h4, h3⟩ := jx_pt_i hr
      simp only [if_pos hc]
      exact fin_re (fun n => jx_pt_e h1 h2 h4 _) (hK _ _ _ _ _ h3)
    · cases hr
  · cases hr
theorem fin_pA (t k tv nx : Nat) : jx_Fin (o_pA t k tv nx) := by
  intro C K Cs Ks hC hK ls st h r hr
  unfold o_pA at hr ⊢
  split at hr
  · obtain ⟨us, h9, hq⟩ := jx_is_i hr
    obtain ⟨fs, h1, h2, h4, h3⟩ := jx_pt_i hq
    exact fin_re (fun n => (jx_is_e h9 _).trans (jx_pt_e h1 h2 h4 _)) (hK _ _ _ _ _ h3)
  · cases hr
theorem fin_sA (t tv nx : Nat) : jx_Fin (o_sA t tv nx) := by
  intro C K Cs Ks hC hK ls st h r hr
  unfold o_sA at hr ⊢
  split at hr
  · obtain ⟨us, h9, hq⟩ := jx_is_i hr
    obtain ⟨vs, h1, h0, h2, h4, h3⟩ := jx_st_i hq
    exact fin_re (fun n => (jx_is_e h9 _).trans (jx_st_e h1 h0 h2 h4 _)) (hK _ _ _ _ _ h3)
  · obtain ⟨vs, h1, h0, h2, h4, h3⟩ := jx_st_i hr
    exact fin_re (fun n => jx_st_e h1 h0 h2 h4 _) (hK _ _ _ _ _ h3)
  · cases hr
theorem fin_lN (t nx : Nat) : jx_Fin (o_lN t nx) := by
  intro C K Cs Ks hC hK ls st h r hr
  unfold o_lN at hr ⊢
  split at hr
  · obtain ⟨vs, h1, h0, ⟨x, h2, h3⟩ | ⟨h2, h3⟩⟩ := jx_lN_i hr
    · exact fin_re (fun n => jx_lN_e h1 h0 h2 _ _) (hK _ _ _ _ _ h3)
    · exact fin_re (fun n => jx_lN_n h1 h0 h2 _ _) (hK _ _ _ _ _ h3)
  · cases hr
theorem fin_raw (nx : Nat) : jx_Fin (o_raw nx) := by
  intro C K Cs Ks hC hK ls st h r hr
  unfold o_raw at hr ⊢
  split at hr
  · obtain ⟨hk, h3⟩ := jx_ck_i hr
    exact fin_re (fun n => jx_ck_e hk _) (hK _ _ _ _ _ h3)
  · cases hr
theorem fin_obj (nx : Nat) : jx_Fin (o_obj nx) := by
  intro C K Cs Ks hC hK ls st h r hr
  unfold o_obj at hr ⊢
  split at hr
  · obtain ⟨hk, h3⟩ := jx_ck_i hr
    exact fin_re (fun n => jx_ck_e hk _) (hK _ _ _ _ _ h3)
  · cases hr
theorem fin_th (e : String) : jx_Fin (o_th e) := by
  intro C K Cs Ks hC hK ls st h r hr
  exact ⟨0, fun _ _ => hr⟩
theorem fin_f2d (nx : Nat) : jx_Fin (o_f2d nx) := by
  intro C K Cs Ks hC hK ls st h r hr
  unfold o_f2d at hr ⊢
  split at hr
  · obtain ⟨h1, h3⟩ := jx_n64_i hr
    exact fin_re (fun n => by unfold jx_n64; rw [h1]; rfl) (hK _ _ _ _ _ h3)
  · cases hr
theorem fin_F2 (f : UInt32 → UInt32 → UInt32) (nx : Nat) : jx_Fin (o_F2 f nx) := by
  intro C K Cs Ks hC hK ls st h r hr
  unfold o_F2 at hr ⊢
  split at hr
  · obtain ⟨h1, h3⟩ := jx_n32_i hr
    exact fin_re (fun n => by unfold jx_n32; rw [h1]; rfl) (hK _ _ _ _ _ h3)
  · cases hr
theorem fin_D2 (f : UInt64 → UInt64 → UInt64) (nx : Nat) : jx_Fin (o_D2 f nx) := by
  intro C K Cs Ks hC hK ls st h r hr
  unfold o_D2 at hr ⊢
  split at hr
  · obtain ⟨h1, h3⟩ := jx_n64_i hr
    exact fin_re (fun n => by unfold jx_n64; rw [h1]; rfl) (hK _ _ _ _ _ h3)
  · cases hr
theorem fin_cV (m n rt nx : Nat) : jx_Fin (o_cV m n rt nx) := by
  intro C K Cs Ks hC hK ls st h r hr
  unfold o_cV at hr ⊢
  obtain ⟨us, rest, rfl, rfl, hk, hq0⟩ := jx_tk_i hr
  obtain ⟨hq, hrc, -⟩ := jx_rc_i hq0
  rcases jx_cV_i hq with ⟨h2, e1, h3⟩ | ⟨e, h2, e1, rfl⟩
  · exact fin_re2 (hK _ _ _ _ _ h3) (hC _ _ _ _ e1) (fun n e => ((jx_tk_e us hk _).trans (hrc _)).trans (jx_cV_e e _))
  · exact fin_re3 (hC _ _ _ _ e1) (fun n e => ((jx_tk_e us hk _).trans (hrc _)).trans (jx_cV_x e _))
theorem fin_cI (m n rt nx : Nat) : jx_Fin (o_cI m n rt nx) := by
  intro C K Cs Ks hC hK ls st h r hr
  unfold o_cI at hr ⊢
  obtain ⟨us, rest, rfl, rfl, hk, hq0⟩ := jx_tk_i hr
  obtain ⟨hq, hrc, -⟩ := jx_rc_i hq0
  rcases jx_cI_i hq with ⟨x, h2, e1, h3⟩ | ⟨e, h2, e1, rfl⟩
  · exact fin_re2 (hK _ _ _ _ _ h3) (hC _ _ _ _ e1) (fun n e => ((jx_tk_e us hk _).trans (hrc _)).trans (jx_cI_e e _))
  · exact fin_re3 (hC _ _ _ _ e1) (fun n e => ((jx_tk_e us hk _).trans (hrc _)).trans (jx_cI_x e _))
theorem fin_cL (m n rt nx : Nat) : jx_Fin (o_cL m n rt nx) := by
  intro C K Cs Ks hC hK ls st h r hr
  unfold o_cL at hr ⊢
  obtain ⟨us, rest, rfl, rfl, hk, hq0⟩ := jx_tk_i hr
  obtain ⟨hq, hrc, -⟩ := jx_rc_i hq0
  rcases jx_cL_i hq with ⟨x, h2, e1, h3⟩ | ⟨e, h2, e1, rfl⟩
  · exact fin_re2 (hK _ _ _ _ _ h3) (hC _ _ _ _ e1) (fun n e => ((jx_tk_e us hk _).trans (hrc _)).trans (jx_cL_e e _))
  · exact fin_re3 (hC _ _ _ _ e1) (fun n e => ((jx_tk_e us hk _).trans (hrc _)).trans (jx_cL_x e _))
theorem fin_cF (m n rt nx : Nat) : jx_Fin (o_cF m n rt nx) := by
  intro C K Cs Ks hC hK ls st h r hr
  unfold o_cF at hr ⊢
  obtain ⟨us, rest, rfl, rfl, hk, hq0⟩ := jx_tk_i hr
  obtain ⟨hq, hrc, -⟩ := jx_rc_i hq0
  rcases jx_cF_i hq with ⟨x, h2, e1, h3⟩ | ⟨e, h2, e1, rfl⟩
  · exact fin_re2 (hK _ _ _ _ _ h3) (hC _ _ _ _ e1) (fun n e => ((jx_tk_e us hk _).trans (hrc _)).trans (jx_cF_e e _))
  · exact fin_re3 (hC _ _ _ _ e1) (fun n e => ((jx_tk_e us hk _).trans (hrc _)).trans (jx_cF_x e _))
theorem fin_cD (m n rt nx : Nat) : jx_Fin (o_cD m n rt nx) := by
  intro C K Cs Ks hC hK ls st h r hr
  unfold o_cD at hr ⊢
  obtain ⟨us, rest, rfl, rfl, hk, hq0⟩ := jx_tk_i hr
  obtain ⟨hq, hrc, -⟩ := jx_rc_i hq0
  rcases jx_cD_i hq with ⟨x, h2, e1, h3⟩ | ⟨e, h2, e1, rfl⟩
  · exact fin_re2 (hK _ _ _ _ _ h3) (hC _ _ _ _ e1) (fun n e => ((jx_tk_e us hk _).trans (hrc _)).trans (jx_cD_e e _))
  · exact fin_re3 (hC _ _ _ _ e1) (fun n e => ((jx_tk_e us hk _).trans (hrc _)).trans (jx_cD_x e _))
theorem fin_cA (m n rt nx : Nat) : jx_Fin (o_cA m n rt nx) := by
  intro C K Cs Ks hC hK ls st h r hr
  unfold o_cA at hr ⊢
  obtain ⟨us, rest, rfl, rfl, hk, hq0⟩ := jx_tk_i hr
  obtain ⟨hq, hrc, -⟩ := jx_rc_i hq0
  rcases jx_cA_i hq with ⟨x, h2, e1, h3⟩ | ⟨e, h2, e1, rfl⟩
  · exact fin_re2 (hK _ _ _ _ _ h3) (hC _ _ _ _ e1) (fun n e => ((jx_tk_e us hk _).trans (hrc _)).trans (jx_cA_e e _))
  · exact fin_re3 (hC _ _ _ _ e1) (fun n e => ((jx_tk_e us hk _).trans (hrc _)).trans (jx_cA_x e _))
theorem fin_cN (m n rt nx : Nat) : jx_Fin (o_cN m n rt nx) := by
  intro C K Cs Ks hC hK ls st h r hr
  unfold o_cN at hr ⊢
  obtain ⟨us, rest, rfl, rfl, hk, hq0⟩ := jx_tk_i hr
  obtain ⟨hq, hrc, -⟩ := jx_rc_i hq0
  rcases jx_cN_i hq with ⟨x, h2, e1, h3⟩ | ⟨h2, e1, h3⟩ | ⟨e, h2, e1, rfl⟩
  · exact fin_re2 (hK _ _ _ _ _ h3) (hC _ _ _ _ e1) (fun n e => ((jx_tk_e us hk _).trans (hrc _)).trans (jx_cN_e e _ _))
  · exact fin_re2 (hK _ _ _ _ _ h3) (hC _ _ _ _ e1) (fun n e => ((jx_tk_e us hk _).trans (hrc _)).trans (jx_cN_n e _ _))
  · exact fin_re3 (hC _ _ _ _ e1) (fun n e => ((jx_tk_e us hk _).trans (hrc _)).trans (jx_cN_x e _ _))
theorem fin_hI (m n rt : Nat) (hs : List (String × Nat)) (nx : Nat) : jx_Fin (o_hI m n rt hs nx) := by
  intro C K Cs Ks hC hK ls st h r hr
  unfold o_hI at hr ⊢
  obtain ⟨us, rest, rfl, rfl, hk, hq0⟩ := jx_tk_i hr
  obtain ⟨hq, hrc, -⟩ := jx_rc_i hq0
  rcases jx_hI_i hq with ⟨x, h2, e1, h3⟩ | ⟨e, h2, e1, h3⟩
  · exact fin_re2 (hK _ _ _ _ _ h3) (hC _ _ _ _ e1) (fun n e => ((jx_tk_e us hk _).trans (hrc _)).trans (jx_hI_e e _ _))
  · rcases jx_hd_i h3 with ⟨t, -, h4, h5⟩ | ⟨h4, -⟩
    · exact fin_re2 (hK _ _ _ _ _ h4) (hC _ _ _ _ e1) (fun n e => ((jx_tk_e us hk _).trans (hrc _)).trans ((jx_hI_x e _ _).trans (h5 _ _)))
    · cases h4
theorem fin_hL (m n rt : Nat) (hs : List (String × Nat)) (nx : Nat) : jx_Fin (o_hL m n rt hs nx) := by
  intro C K Cs Ks hC hK ls st h r hr
  unfold o_hL at hr ⊢
  obtain ⟨us, rest, rfl, rfl, hk, hq0⟩ := jx_tk_i hr
  obtain ⟨hq, hrc, -⟩ := jx_rc_i hq0
  rcases jx_hL_i hq with ⟨x, h2, e1, h3⟩ | ⟨e, h2, e1, h3⟩
  · exact fin_re2 (hK _ _ _ _ _ h3) (hC _ _ _ _ e1) (fun n e => ((jx_tk_e us hk _).trans (hrc _)).trans (jx_hL_e e _ _))
  · rcases jx_hd_i h3 with ⟨t, -, h4, h5⟩ | ⟨h4, -⟩
    · exact fin_re2 (hK _ _ _ _ _ h4) (hC _ _ _ _ e1) (fun n e => ((jx_tk_e us hk _).trans (hrc _)).trans ((jx_hL_x e _ _).trans (h5 _ _)))
    · cases h4
theorem fin_hF (m n rt : Nat) (hs : List (String × Nat)) (nx : Nat) : jx_Fin (o_hF m n rt hs nx) := by
  intro C K Cs Ks hC hK ls st h r hr
  unfold o_hF at hr ⊢
  obtain ⟨us, rest, rfl, rfl, hk, hq0⟩ := jx_tk_i hr
  obtain ⟨hq, hrc, -⟩ := jx_rc_i hq0
  rcases jx_hF_i hq with ⟨x, h2, e1, h3⟩ | ⟨e, h2, e1, h3⟩
  · exact fin_re2 (hK _ _ _ _ _ h3) (hC _ _ _ _ e1) (fun n e => ((jx_tk_e us hk _).trans (hrc _)).trans (jx_hF_e e _ _))
  · rcases jx_hd_i h3 with ⟨t, -, h4, h5⟩ | ⟨h4, -⟩
    · exact fin_re2 (hK _ _ _ _ _ h4) (hC _ _ _ _ e1) (fun n e => ((jx_tk_e us hk _).trans (hrc _)).trans ((jx_hF_x e _ _).trans (h5 _ _)))
    · cases h4
theorem fin_hD (m n rt : Nat) (hs : List (String × Nat)) (nx : Nat) : jx_Fin (o_hD m n rt hs nx) := by
  intro C K Cs Ks hC hK ls st h r hr
  unfold o_hD at hr ⊢
  obtain ⟨us, rest, rfl, rfl, hk, hq0⟩ := jx_tk_i hr
  obtain ⟨hq, hrc, -⟩ := jx_rc_i hq0
  rcases jx_hD_i hq with ⟨x, h2, e1, h3⟩ | ⟨e, h2, e1, h3⟩
  · exact fin_re2 (hK _ _ _ _ _ h3) (hC _ _ _ _ e1) (fun n e => ((jx_tk_e us hk _).trans (hrc _)).trans (jx_hD_e e _ _))
  · rcases jx_hd_i h3 with ⟨t, -, h4, h5⟩ | ⟨h4, -⟩
    · exact fin_re2 (hK _ _ _ _ _ h4) (hC _ _ _ _ e1) (fun n e => ((jx_tk_e us hk _).trans (hrc _)).trans ((jx_hD_x e _ _).trans (h5 _ _)))
    · cases h4
/-- numbers only grow -/
def jx_le (h h' : jx_H) : Prop := h.2.1 ≤ h'.2.1 ∧ h.2.2.1 ≤ h'.2.2.1 ∧ h.2.2.2 ≤ h'.2.2.2
theorem jx_le_r (h : jx_H) : jx_le h h := ⟨Nat.le_refl _, Nat.le_refl _, Nat.le_refl _⟩
theorem jx_le_t {a b c : jx_H} (h : jx_le a b) (k : jx_le b c) : jx_le a c := ⟨Nat.le_trans h.1 k.1, Nat.le_trans h.2.1 k.2.1, Nat.le_trans h.2.2 k.2.2⟩
theorem jx_le_a {h : jx_H} {o : jx_Ob} {n : Nat} {r : jx_H} (k : jx_le (jx_add h o n) r) : jx_le h r := jx_le_t (b := jx_add h o n) ⟨Nat.le_add_right _ _, Nat.le_add_right _ _, Nat.le_add_right _ _⟩ k
theorem jx_le_s {h : jx_H} {a : Nat} {o : jx_Ob} {r : jx_H} (k : jx_le (jx_set h a o) r) : jx_le h r := k
theorem jx_le_x (h : jx_H) : jx_le h (jx_thr h) := ⟨Nat.le_add_right _ _, Nat.le_add_right _ _, Nat.le_add_right _ _⟩
def jx_Mo (op : jx_Op) : Prop := ∀ (C : jx_C) (K : jx_K) (r : jx_O), (∀ m as h r', C m as h = some r' → jx_le h r'.2) → (∀ pc ls st h, K pc ls st h = some r → jx_le h r.2) → ∀ ls st h, op C ls st h K = some r → jx_le h r.2
def jx_FM (op : jx_Op) : Prop := jx_Fin op ∧ jx_Mo op
theorem mo_ic (v : Int32) (nx : Nat) : jx_Mo (o_ic v nx) := by
  intro C K r hC hK ls st h hr
  unfold o_ic at hr
  first | exact hK _ _ _ _ hr | exact jx_le_a (hK _ _ _ _ hr) | (cases hr; first | exact jx_le_r _ | exact jx_le_x _) | cases hr
theorem mo_lc (v : Int64) (nx : Nat) : jx_Mo (o_lc v nx) := by
  intro C K r hC hK ls st h hr
  unfold o_lc at hr
  first | exact hK _ _ _ _ hr | exact jx_le_a (hK _ _ _ _ hr) | (cases hr; first | exact jx_le_r _ | exact jx_le_x _) | cases hr
theorem mo_fc (v : UInt32) (nx : Nat) : jx_Mo (o_fc v nx) := by
  intro C K r hC hK ls st h hr
  unfold o_fc at hr
  first | exact hK _ _ _ _ hr | exact jx_le_a (hK _ _ _ _ hr) | (cases hr; first | exact jx_le_r _ | exact jx_le_x _) | cases hr
theorem mo_dc (v : UInt64) (nx : Nat) : jx_Mo (o_dc v nx) := by
  intro C K r hC hK ls st h hr
  unfold o_dc at hr
  first | exact hK _ _ _ _ hr | exact jx_le_a (hK _ _ _ _ hr) | (cases hr; first | exact jx_le_r _ | exact jx_le_x _) | cases hr
theorem mo_rc (a nx : Nat) : jx_Mo (o_rc a nx) := by
  intro C K r hC hK ls st h hr
  unfold o_rc at hr
  first | exact hK _ _ _ _ hr | exact jx_le_a (hK _ _ _ _ hr) | (cases hr; first | exact jx_le_r _ | exact jx_le_x _) | cases hr
theorem mo_jc (nx : Nat) : jx_Mo (o_jc nx) := by
  intro C K r hC hK ls st h hr
  unfold o_jc at hr
  first | exact hK _ _ _ _ hr | exact jx_le_a (hK _ _ _ _ hr) | (cases hr; first | exact jx_le_r _ | exact jx_le_x _) | cases hr
theorem mo_nc (nx : Nat) : jx_Mo (o_nc nx) := by
  intro C K r hC hK ls st h hr
  unfold o_nc at hr
  first | exact hK _ _ _ _ hr | exact jx_le_a (hK _ _ _ _ hr) | (cases hr; first | exact jx_le_r _ | exact jx_le_x _) | cases hr
theorem mo_il (i nx : Nat) : jx_Mo (o_il i nx) := by
  intro C K r hC hK ls st h hr
  unfold o_il at hr
  split at hr <;> first | exact hK _ _ _ _ hr | exact jx_le_a (hK _ _ _ _ hr) | (cases hr; first | exact jx_le_r _ | exact jx_le_x _) | cases hr
theorem mo_ll (i nx : Nat) : jx_Mo (o_ll i nx) := by
  intro C K r hC hK ls st h hr
  unfold o_ll at hr
  split at hr <;> first | exact hK _ _ _ _ hr | exact jx_le_a (hK _ _ _ _ hr) | (cases hr; first | exact jx_le_r _ | exact jx_le_x _) | cases hr
theorem mo_fl (i nx : Nat) : jx_Mo (o_fl i nx) := by
  intro C K r hC hK ls st h hr
  unfold o_fl at hr
  split at hr <;> first | exact hK _ _ _ _ hr | exact jx_le_a (hK _ _ _ _ hr) | (cases hr; first | exact jx_le_r _ | exact jx_le_x _) | cases hr
theorem mo_dl (i nx : Nat) : jx_Mo (o_dl i nx) := by
  intro C K r hC hK ls st h hr
  unfold o_dl at hr
  split at hr <;> first | exact hK _ _ _ _ hr | exact jx_le_a (hK _ _ _ _ hr) | (cases hr; first | exact jx_le_r _ | exact jx_le_x _) | cases hr
theorem mo_al (i nx : Nat) : jx_Mo (o_al i nx) := by
  intro C K r hC hK ls st h hr
  unfold o_al at hr
  split at hr <;> first | exact hK _ _ _ _ hr | exact jx_le_a (hK _ _ _ _ hr) | (cases hr; first | exact jx_le_r _ | exact jx_le_x _) | cases hr
theorem mo_is (i nx : Nat) : jx_Mo (o_is i nx) := by
  intro C K r hC hK ls st h hr
  unfold o_is at hr
  split at hr <;> first | exact hK _ _ _ _ hr | exact jx_le_a (hK _ _ _ _ hr) | (cases hr; first | exact jx_le_r _ | exact jx_le_x _) | cases hr
theorem mo_ls (i nx : Nat) : jx_Mo (o_ls i nx) := by
  intro C K r hC hK ls st h hr
  unfold o_ls at hr
  split at hr <;> first | exact hK _ _ _ _ hr | exact jx_le_a (hK _ _ _ _ hr) | (cases hr; first | exact jx_le_r _ | exact jx_le_x _) | cases hr
theorem mo_fs (i nx : Nat) : jx_Mo (o_fs i nx) := by
  intro C K r hC hK ls st h hr
  unfold o_fs at hr
  split at hr <;> first | exact hK _ _ _ _ hr | exact jx_le_a (hK _ _ _ _ hr) | (cases hr; first | exact jx_le_r _ | exact jx_le_x _) | cases hr
theorem mo_ds (i nx : Nat) : jx_Mo (o_ds i nx) := by
  intro C K r hC hK ls st h hr
  unfold o_ds at hr
  split at hr <;> first | exact hK _ _ _ _ hr | exact jx_le_a (hK _ _ _ _ hr) | (cases hr; first | exact jx_le_r _ | exact jx_le_x _) | cases hr
theorem mo_as (i nx : Nat) : jx_Mo (o_as i nx) := by
  intro C K r hC hK ls st h hr
  unfold o_as at hr
  split at hr <;> first | exact hK _ _ _ _ hr | exact jx_le_a (hK _ _ _ _ hr) | (cases hr; first | exact jx_le_r _ | exact jx_le_x _) | cases hr
theorem mo_aj (i nx : Nat) : jx_Mo (o_aj i nx) := by
  intro C K r hC hK ls st h hr
  unfold o_aj at hr
  split at hr <;> first | exact hK _ _ _ _ hr | exact jx_le_a (hK _ _ _ _ hr) | (cases hr; first | exact jx_le_r _ | exact jx_le_x _) | cases hr
theorem mo_inc (i : Nat) (n : Int32) (nx : Nat) : jx_Mo (o_inc i n nx) := by
  intro C K r hC hK ls st h hr
  unfold o_inc at hr
  split at hr <;> first | exact hK _ _ _ _ hr | exact jx_le_a (hK _ _ _ _ hr) | (cases hr; first | exact jx_le_r _ | exact jx_le_x _) | cases hr
theorem mo_b2 (f : Int32 → Int32 → Int32) (nx : Nat) : jx_Mo (o_b2 f nx) := by
  intro C K r hC hK ls st h hr
  unfold o_b2 at hr
  split at hr <;> first | exact hK _ _ _ _ hr | exact jx_le_a (hK _ _ _ _ hr) | (cases hr; first | exact jx_le_r _ | exact jx_le_x _) | cases hr
theorem mo_B2 (f : Int64 → Int64 → Int64) (nx : Nat) : jx_Mo (o_B2 f nx) := by
  intro C K r hC hK ls st h hr
  unfold o_B2 at hr
  split at hr <;> first | exact hK _ _ _ _ hr | exact jx_le_a (hK _ _ _ _ hr) | (cases hr; first | exact jx_le_r _ | exact jx_le_x _) | cases hr
theorem mo_Sh (f : Int64 → Int32 → Int64) (nx : Nat) : jx_Mo (o_Sh f nx) := by
  intro C K r hC hK ls st h hr
  unfold o_Sh at hr
  split at hr <;> first | exact hK _ _ _ _ hr | exact jx_le_a (hK _ _ _ _ hr) | (cases hr; first | exact jx_le_r _ | exact jx_le_x _) | cases hr
theorem mo_u (f : Int32 → Int32) (nx : Nat) : jx_Mo (o_u f nx) := by
  intro C K r hC hK ls st h hr
  unfold o_u at hr
  split at hr <;> first | exact hK _ _ _ _ hr | exact jx_le_a (hK _ _ _ _ hr) | (cases hr; first | exact jx_le_r _ | exact jx_le_x _) | cases hr
theorem mo_i2l (nx : Nat) : jx_Mo (o_i2l nx) := by
  intro C K r hC hK ls st h hr
  unfold o_i2l at hr
  split at hr <;> first | exact hK _ _ _ _ hr | exact jx_le_a (hK _ _ _ _ hr) | (cases hr; first | exact jx_le_r _ | exact jx_le_x _) | cases hr
theorem mo_l2i (nx : Nat) : jx_Mo (o_l2i nx) := by
  intro C K r hC hK ls st h hr
  unfold o_l2i at hr
  split at hr <;> first | exact hK _ _ _ _ hr | exact jx_le_a (hK _ _ _ _ hr) | (cases hr; first | exact jx_le_r _ | exact jx_le_x _) | cases hr
theorem mo_lcmp (nx : Nat) : jx_Mo (o_lcmp nx) := by
  intro C K r hC hK ls st h hr
  unfold o_lcmp at hr
  split at hr <;> first | exact hK _ _ _ _ hr | exact jx_le_a (hK _ _ _ _ hr) | (cases hr; first | exact jx_le_r _ | exact jx_le_x _) | cases hr
theorem mo_i2f (nx : Nat) : jx_Mo (o_i2f nx) := by
  intro C K r hC hK ls st h hr
  unfold o_i2f at hr
  split at hr <;> first | exact hK _ _ _ _ hr | exact jx_le_a (hK _ _ _ _ hr) | (cases hr; first | exact jx_le_r _ | exact jx_le_x _) | cases hr
theorem mo_i2d (nx : Nat) : jx_Mo (o_i2d nx) := by
  intro C K r hC hK ls st h hr
  unfold o_i2d at hr
  split at hr <;> first | exact hK _ _ _ _ hr | exact jx_le_a (hK _ _ _ _ hr) | (cases hr; first | exact jx_le_r _ | exact jx_le_x _) | cases hr
theorem mo_f2i (nx : Nat) : jx_Mo (o_f2i nx) := by
  intro C K r hC hK ls st h hr
  unfold o_f2i at hr
  split at hr <;> first | exact hK _ _ _ _ hr | exact jx_le_a (hK _ _ _ _ hr) | (cases hr; first | exact jx_le_r _ | exact jx_le_x _) | cases hr
theorem mo_fcmp (o : CmpOp) (nx : Nat) : jx_Mo (o_fcmp o nx) := by
  intro C K r hC hK ls st h hr
  unfold o_fcmp at hr
  split at hr <;> first | exact hK _ _ _ _ hr | exact jx_le_a (hK _ _ _ _ hr) | (cases hr; first | exact jx_le_r _ | exact jx_le_x _) | cases hr
theorem mo_dcmp (o : CmpOp) (nx : Nat) : jx_Mo (o_dcmp o nx) := by
  intro C K r hC hK ls st h hr
  unfold o_dcmp at hr
  split at hr <;> first | exact hK _ _ _ _ hr | exact jx_le_a (hK _ _ _ _ hr) | (cases hr; first | exact jx_le_r _ | exact jx_le_x _) | cases hr
theorem mo_dup (nx : Nat) : jx_Mo (o_dup nx) := by
  intro C K r hC hK ls st h hr
  unfold o_dup at hr
  split at hr <;> first | exact hK _ _ _ _ hr | exact jx_le_a (hK _ _ _ _ hr) | (cases hr; first | exact jx_le_r _ | exact jx_le_x _) | cases hr
theorem mo_d11 (nx : Nat) : jx_Mo (o_d11 nx) := by
  intro C K r hC hK ls st h hr
  unfold o_d11 at hr
  split at hr <;> first | exact hK _ _ _ _ hr | exact jx_le_a (hK _ _ _ _ hr) | (cases hr; first | exact jx_le_r _ | exact jx_le_x _) | cases hr
theorem mo_pop (nx : Nat) : jx_Mo (o_pop nx) := by
  intro C K r hC hK ls st h hr
  unfold o_pop at hr
  split at hr <;> first | exact hK _ _ _ _ hr | exact jx_le_a (hK _ _ _ _ hr) | (cases hr; first | exact jx_le_r _ | exact jx_le_x _) | cases hr
theorem mo_go (t : Nat) : jx_Mo (o_go t) := by
  intro C K r hC hK ls st h hr
  unfold o_go at hr
  first | exact hK _ _ _ _ hr | exact jx_le_a (hK _ _ _ _ hr) | (cases hr; first | exact jx_le_r _ | exact jx_le_x _) | cases hr
theorem mo_nul (t nx : Nat) : jx_Mo (o_nul t nx) := by
  intro C K r hC hK ls st h hr
  unfold o_nul at hr
  split at hr <;> first | exact hK _ _ _ _ hr | exact jx_le_a (hK _ _ _ _ hr) | (cases hr; first | exact jx_le_r _ | exact jx_le_x _) | cases hr
theorem mo_nnl (t nx : Nat) : jx_Mo (o_nnl t nx) := by
  intro C K r hC hK ls st h hr
  unfold o_nnl at hr
  split at hr <;> first | exact hK _ _ _ _ hr | exact jx_le_a (hK _ _ _ _ hr) | (cases hr; first | exact jx_le_r _ | exact jx_le_x _) | cases hr
theorem mo_bad  : jx_Mo (o_bad ) := by
  intro C K r hC hK ls st h hr
  unfold o_bad at hr
  first | exact hK _ _ _ _ hr | exact jx_le_a (hK _ _ _ _ hr) | (cases hr; first | exact jx_le_r _ | exact jx_le_x _) | cases hr
theorem mo_rV  : jx_Mo (o_rV ) := by
  intro C K r hC hK ls st h hr
  unfold o_rV at hr
  split at hr <;> first | exact hK _ _ _ _ hr | exact jx_le_a (hK _ _ _ _ hr) | (cases hr; first | exact jx_le_r _ | exact jx_le_x _) | cases hr
theorem mo_rI  : jx_Mo (o_rI ) := by
  intro C K r hC hK ls st h hr
  unfold o_rI at hr
  split at hr <;> first | exact hK _ _ _ _ hr | exact jx_le_a (hK _ _ _ _ hr) | (cases hr; first | exact jx_le_r _ | exact jx_le_x _) | cases hr
theorem mo_rL  : jx_Mo (o_rL ) := by
  intro C K r hC hK ls st h hr
  unfold o_rL at hr
  split at hr <;> first | exact hK _ _ _ _ hr | exact jx_le_a (hK _ _ _ _ hr) | (cases hr; first | exact jx_le_r _ | exact jx_le_x _) | cases hr
theorem mo_rF  : jx_Mo (o_rF ) := by
  intro C K r hC hK ls st h hr
  unfold o_rF at hr
  split at hr <;> first | exact hK _ _ _ _ hr | exact jx_le_a (hK _ _ _ _ hr) | (cases hr; first | exact jx_le_r _ | exact jx_le_x _) | cases hr
theorem mo_rD  : jx_Mo (o_rD ) := by
  intro C K r hC hK ls st h hr
  unfold o_rD at hr
  split at hr <;> first | exact hK _ _ _ _ hr | exact jx_le_a (hK _ _ _ _ hr) | (cases hr; first | exact jx_le_r _ | exact jx_le_x _) | cases hr
theorem mo_rA  : jx_Mo (o_rA ) := by
  intro C K r hC hK ls st h hr
  unfold o_rA at hr
  split at hr <;> first | exact hK _ _ _ _ hr | exact jx_le_a (hK _ _ _ _ hr) | (cases hr; first | exact jx_le_r _ | exact jx_le_x _) | cases hr
theorem mo_new (t : Nat) (fs : List Value) (nx : Nat) : jx_Mo (o_new t fs nx) := by
  intro C K r hC hK ls st h hr
  unfold o_new at hr
  split at hr <;> first | exact hK _ _ _ _ hr | exact jx_le_a (hK _ _ _ _ hr) | (cases hr; first | exact jx_le_r _ | exact jx_le_x _) | cases hr
theorem mo_div (nx : Nat) : jx_Mo (o_div nx) := by
  intro C K r hC hK ls st h hr
  unfold o_div at hr
  split at hr
  · split at hr <;> first | exact hK _ _ _ _ hr | exact jx_le_a (hK _ _ _ _ hr) | (cases hr; first | exact jx_le_r _ | exact jx_le_x _) | cases hr
  · cases hr
theorem mo_rem (nx : Nat) : jx_Mo (o_rem nx) := by
  intro C K r hC hK ls st h hr
  unfold o_rem at hr
  split at hr
  · split at hr <;> first | exact hK _ _ _ _ hr | exact jx_le_a (hK _ _ _ _ hr) | (cases hr; first | exact jx_le_r _ | exact jx_le_x _) | cases hr
  · cases hr
theorem mo_na (t : Nat) (v : Value) (nx : Nat) : jx_Mo (o_na t v nx) := by
  intro C K r hC hK ls st h hr
  unfold o_na at hr
  split at hr
  · split at hr <;> first | exact hK _ _ _ _ hr | exact jx_le_a (hK _ _ _ _ hr) | (cases hr; first | exact jx_le_r _ | exact jx_le_x _) | cases hr
  · cases hr
theorem mo_rZ  : jx_Mo (o_rZ ) := by
  intro C K r hC hK ls st h hr
  unfold o_rZ at hr
  split at hr
  · split at hr <;> first | exact hK _ _ _ _ hr | exact jx_le_a (hK _ _ _ _ hr) | (cases hr; first | exact jx_le_r _ | exact jx_le_x _) | cases hr
  · cases hr
theorem mo_rC  : jx_Mo (o_rC ) := by
  intro C K r hC hK ls st h hr
  unfold o_rC at hr
  split at hr
  · split at hr <;> first | exact hK _ _ _ _ hr | exact jx_le_a (hK _ _ _ _ hr) | (cases hr; first | exact jx_le_r _ | exact jx_le_x _) | cases hr
  · cases hr
theorem mo_rB  : jx_Mo (o_rB ) := by
  intro C K r hC hK ls st h hr
  unfold o_rB at hr
  split at hr
  · split at hr <;> first | exact hK _ _ _ _ hr | exact jx_le_a (hK _ _ _ _ hr) | (cases hr; first | exact jx_le_r _ | exact jx_le_x _) | cases hr
  · cases hr
theorem mo_eq (t nx : Nat) : jx_Mo (o_eq t nx) := by
  intro C K r hC hK ls st h hr
  unfold o_eq at hr
  split at hr
  · split at hr <;> first | exact hK _ _ _ _ hr | exact jx_le_a (hK _ _ _ _ hr) | (cases hr; first | exact jx_le_r _ | exact jx_le_x _) | cases hr
  · cases hr
theorem mo_ne (t nx : Nat) : jx_Mo (o_ne t nx) := by
  intro C K r hC hK ls st h hr
  unfold o_ne at hr
  split at hr
  · split at hr <;> first | exact hK _ _ _ _ hr | exact jx_le_a (hK _ _ _ _ hr) | (cases hr; first | exact jx_le_r _ | exact jx_le_x _) | cases hr
  · cases hr
theorem mo_lt (t nx : Nat) : jx_Mo (o_lt t nx) := by
  intro C K r hC hK ls st h hr
  unfold o_lt at hr
  split at hr
  · split at hr <;> first | exact hK _ _ _ _ hr | exact jx_le_a (hK _ _ _ _ hr) | (cases hr; first | exact jx_le_r _ | exact jx_le_x _) | cases hr
  · cases hr
theorem mo_ge (t nx : Nat) : jx_Mo (o_ge t nx) := by
  intro C K r hC hK ls st h hr
  unfold o_ge at hr
  split at hr
  · split at hr <;> first | exact hK _ _ _ _ hr | exact jx_le_a (hK _ _ _ _ hr) | (cases hr; first | exact jx_le_r _ | exact jx_le_x _) | cases hr
  · cases hr
theorem mo_gt (t nx : Nat) : jx_Mo (o_gt t nx) := by
  intro C K r hC hK ls st h hr
  unfold o_gt at hr
  split at hr
  · split at hr <;> first | exact hK _ _ _ _ hr | exact jx_le_a (hK _ _ _ _ hr) | (cases hr; first | exact jx_le_r _ | exact jx_le_x _) | cases hr
  · cases hr
theorem mo_le (t nx : Nat) : jx_Mo (o_le t nx) := by
  intro C K r hC hK ls st h hr
  unfold o_le at hr
  split at hr
  · split at hr <;> first | exact hK _ _ _ _ hr | exact jx_le_a (hK _ _ _ _ hr) | (cases hr; first | exact jx_le_r _ | exact jx_le_x _) | cases hr
  · cases hr
theorem mo_ceq (t nx : Nat) : jx_Mo (o_ceq t nx) := by
  intro C K r hC hK ls st h hr
  unfold o_ceq at hr
  split at hr
  · split at hr <;> first | exact hK _ _ _ _ hr | exact jx_le_a (hK _ _ _ _ hr) | (cases hr; first | exact jx_le_r _ | exact jx_le_x _) | cases hr
  · cases hr
theorem mo_cne (t nx : Nat) : jx_Mo (o_cne t nx) := by
  intro C K r hC hK ls st h hr
  unfold o_cne at hr
  split at hr
  · split at hr <;> first | exact hK _ _ _ _ hr | exact jx_le_a (hK _ _ _ _ hr) | (cases hr; first | exact jx_le_r _ | exact jx_le_x _) | cases hr
  · cases hr
theorem mo_clt (t nx : Nat) : jx_Mo (o_clt t nx) := by
  intro C K r hC hK ls st h hr
  unfold o_clt at hr
  split at hr
  · split at hr <;> first | exact hK _ _ _ _ hr | exact jx_le_a (hK _ _ _ _ hr) | (cases hr; first | exact jx_le_r _ | exact jx_le_x _) | cases hr
  · cases hr
theorem mo_cge (t nx : Nat) : jx_Mo (o_cge t nx) := by
  intro C K r hC hK ls st h hr
  unfold o_cge at hr
  split at hr
  · split at hr <;> first | exact hK _ _ _ _ hr | exact jx_le_a (hK _ _ _ _ hr) | (cases hr; first | exact jx_le_r _ | exact jx_le_x _) | cases hr
  · cases hr
theorem mo_cgt (t nx : Nat) : jx_Mo (o_cgt t nx) := by
  intro C K r hC hK ls st h hr
  unfold o_cgt at hr
  split at hr
  · split at hr <;> first | exact hK _ _ _ _ hr | exact jx_le_a (hK _ _ _ _ hr) | (cases hr; first | exact jx_le_r _ | exact jx_le_x _) | cases hr
  · cases hr
theorem mo_cle (t nx : Nat) : jx_Mo (o_cle t nx) := by
  intro C K r hC hK ls st h hr
  unfold o_cle at hr
  split at hr
  · split at hr <;> first | exact hK _ _ _ _ hr | exact jx_le_a (hK _ _ _ _ hr) | (cases hr; first | exact jx_le_r _ | exact jx_le_x _) | cases hr
  · cases hr
theorem mo_ane (t nx : Nat) : jx_Mo (o_ane t nx) := by
  intro C K r hC hK ls st h hr
  unfold o_ane at hr
  split at hr
  · split at hr
    · split at hr <;> first | exact hK _ _ _ _ hr | exact jx_le_a (hK _ _ _ _ hr) | (cases hr; first | exact jx_le_r _ | exact jx_le_x _) | cases hr
    · cases hr
  · cases hr
theorem mo_sw (d : Nat) (ts : List (Int32 × Nat)) : jx_Mo (o_sw d ts) := by
  intro C K r hC hK ls st h hr
  unfold o_sw at hr
  split at hr
  · obtain ⟨t, h1, -⟩ := jx_sw_i hr
    exact hK _ _ _ _ h1
  · cases hr
theorem mo_gI (t k nx : Nat) : jx_Mo (o_gI t k nx) := by
  intro C K r hC hK ls st h hr
  unfold o_gI at hr
  split at hr
  · have hq := hr
    obtain ⟨fs, x, h1, h2, h3⟩ := jx_gI_i hq
    first | exact hK _ _ _ _ h3 | exact jx_le_s (hK _ _ _ _ h3)
  · cases hr
theorem mo_gA (t k nx : Nat) : jx_Mo (o_gA t k nx) := by
  intro C K r hC hK ls st h hr
  unfold o_gA at hr
  split at hr
  · have hq := hr
    obtain ⟨fs, x, h1, h2, h3⟩ := jx_gA_i hq
    first | exact hK _ _ _ _ h3 | exact jx_le_s (hK _ _ _ _ h3)
  · cases hr
theorem mo_pI (t k nx : Nat) : jx_Mo (o_pI t k nx) := by
  intro C K r hC hK ls st h hr
  unfold o_pI at hr
  split at hr
  · have hq := hr
    obtain ⟨fs, h1, h2, h4, h3⟩ := jx_pt_i hq
    first | exact hK _ _ _ _ h3 | exact jx_le_s (hK _ _ _ _ h3)
  · cases hr
theorem mo_lI (t nx : Nat) : jx_Mo (o_lI t nx) := by
  intro C K r hC hK ls st h hr
  unfold o_lI at hr
  split at hr
  · have hq := hr
    obtain ⟨vs, x, h1, h0, h2, h3⟩ := jx_lI_i hq
    first | exact hK _ _ _ _ h3 | exact jx_le_s (hK _ _ _ _ h3)
  · cases hr
theorem mo_lL (t nx : Nat) : jx_Mo (o_lL t nx) := by
  intro C K r hC hK ls st h hr
  unfold o_lL at hr
  split at hr
  · have hq := hr
    obtain ⟨vs, x, h1, h0, h2, h3⟩ := jx_lL_i hq
    first | exact hK _ _ _ _ h3 | exact jx_le_s (hK _ _ _ _ h3)
  · cases hr
theorem mo_lD (t nx : Nat) : jx_Mo (o_lD t nx) := by
  intro C K r hC hK ls st h hr
  unfold o_lD at hr
  split at hr
  · have hq := hr
    obtain ⟨vs, x, h1, h0, h2, h3⟩ := jx_lD_i hq
    first | exact hK _ _ _ _ h3 | exact jx_le_s (hK _ _ _ _ h3)
  · cases hr
theorem mo_lA (t nx : Nat) : jx_Mo (o_lA t nx) := by
  intro C K r hC hK ls st h hr
  unfold o_lA at hr
  split at hr
  · have hq := hr
    obtain ⟨vs, x, h1, h0, h2, h3⟩ := jx_lA_i hq
    first | exact hK _ _ _ _ h3 | exact jx_le_s (hK _ _ _ _ h3)
  · cases hr
theorem mo_sI (t nx : Nat) : jx_Mo (o_sI t nx) := by
  intro C K r hC hK ls st h hr
  unfold o_sI at hr
  split at hr
  · have hq := hr
    obtain ⟨vs, h1, h0, h2, h4, h3⟩ := jx_st_i hq
    first | exact hK _ _ _ _ h3 | exact jx_le_s (hK _ _ _ _ h3)
  · cases hr
theorem mo_sC (t nx : Nat) : jx_Mo (o_sC t nx) := by
  intro C K r hC hK ls st h hr
  unfold o_sC at hr
  split at hr
  · have hq := hr
    obtain ⟨vs, h1, h0, h2, h4, h3⟩ := jx_st_i hq
    first | exact hK _ _ _ _ h3 | exact jx_le_s (hK _ _ _ _ h3)
  · cases hr
theorem mo_sL (t nx : Nat) : jx_Mo (o_sL t nx) := by
  intro C K r hC hK ls st h hr
  unfold o_sL at hr
  split at hr
  · have hq := hr
    obtain ⟨vs, h1, h0, h2, h4, h3⟩ := jx_st_i hq
    first | exact hK _ _ _ _ h3 | exact jx_le_s (hK _ _ _ _ h3)
  · cases hr
theorem mo_sD (t nx : Nat) : jx_Mo (o_sD t nx) := by
  intro C K r hC hK ls st h hr
  unfold o_sD at hr
  split at hr
  · have hq := hr
    obtain ⟨vs, h1, h0, h2, h4, h3⟩ := jx_st_i hq
    first | exact hK _ _ _ _ h3 | exact jx_le_s (hK _ _ _ _ h3)
  · cases hr
theorem mo_len (nx : Nat) : jx_Mo (o_len nx) := by
  intro C K r hC hK ls st h hr
  unfold o_len at hr
  split at hr
  · have hq := hr
    obtain ⟨t, vs, h1, h2, h3⟩ := jx_sz_i hq
    first | exact hK _ _ _ _ h3 | exact jx_le_s (hK _ _ _ _ h3)
  · cases hr
theorem mo_cp (t nx : Nat) : jx_Mo (o_cp t nx) := by
  intro C K r hC hK ls st h hr
  unfold o_cp at hr
  split at hr
  · obtain ⟨hk, hq⟩ := jx_ck_i hr
    obtain ⟨us, vs, h1, h2, hc, h3⟩ := jx_cp_i hq
    first | exact hK _ _ _ _ h3 | exact jx_le_s (hK _ _ _ _ h3)
  · cases hr
theorem mo_pZ (t k nx : Nat) : jx_Mo (o_pZ t k nx) := by
  intro C K r hC hK ls st h hr
  unfold o_pZ at hr
  split at hr
  · split at hr
    · obtain ⟨fs, h1, h2, h4, h3⟩ := jx_pt_i hr
      first | exact hK _ _ _ _ h3 | exact jx_le_s (hK _ _ _ _ h3)
    · cases hr
  · cases hr
theorem mo_pC (t k nx : Nat) : jx_Mo (o_pC t k nx) := by
  intro C K r hC hK ls st h hr
  unfold o_pC at hr
  split at hr
  · split at hr
    · obtain ⟨fs, h1, h2, h4, h3⟩ := jx_pt_i hr
      first | exact hK _ _ _ _ h3 | exact jx_le_s (hK _ _ _ _ h3)
    · cases hr
  · cases hr
theorem mo_raw (nx : Nat) : jx_Mo (o_raw nx) := by
  intro C K r hC hK ls st h hr
  unfold o_raw at hr
  split at hr
  · obtain ⟨hk, h3⟩ := jx_ck_i hr
    exact hK _ _ _ _ h3
  · cases hr
theorem mo_obj (nx : Nat) : jx_Mo (o_obj nx) := by
  intro C K r hC hK ls st h hr
  unfold o_obj at hr
  split at hr
  · obtain ⟨hk, h3⟩ := jx_ck_i hr
    exact hK _ _ _ _ h3
  · cases hr
theorem mo_th (e : String) : jx_Mo (o_th e) := by
  intro C K r hC hK ls st h hr
  unfold o_th at hr
  obtain ⟨hk, h3⟩ := jx_ck_i hr
  cases h3
  exact jx_le_x _
theorem mo_pA (t k tv nx : Nat) : jx_Mo (o_pA t k tv nx) := by
  intro C K r hC hK ls st h hr
  unfold o_pA at hr
  split at hr
  · obtain ⟨us, h9, hq⟩ := jx_is_i hr
    obtain ⟨fs, h1, h2, h4, h3⟩ := jx_pt_i hq
    first | exact hK _ _ _ _ h3 | exact jx_le_s (hK _ _ _ _ h3)
  · cases hr
theorem mo_sA (t tv nx : Nat) : jx_Mo (o_sA t tv nx) := by
  intro C K r hC hK ls st h hr
  unfold o_sA at hr
  split at hr
  · obtain ⟨us, h9, hq⟩ := jx_is_i hr
    obtain ⟨fs, h1, h0, h2, h4, h3⟩ := jx_st_i hq
    first | exact hK _ _ _ _ h3 | exact jx_le_s (hK _ _ _ _ h3)
  · obtain ⟨fs, h1, h0, h2, h4, h3⟩ := jx_st_i hr
    first | exact hK _ _ _ _ h3 | exact jx_le_s (hK _ _ _ _ h3)
  · cases hr
theorem mo_lN (t nx : Nat) : jx_Mo (o_lN t nx) := by
  intro C K r hC hK ls st h hr
  unfold o_lN at hr
  split at hr
  · obtain ⟨vs, h1, h0, ⟨x, h2, h3⟩ | ⟨h2, h3⟩⟩ := jx_lN_i hr
    · first | exact hK _ _ _ _ h3 | exact jx_le_s (hK _ _ _ _ h3)
    · first | exact hK _ _ _ _ h3 | exact jx_le_s (hK _ _ _ _ h3)
  · cases hr
theorem mo_f2d (nx : Nat) : jx_Mo (o_f2d nx) := by
  intro C K r hC hK ls st h hr
  unfold o_f2d at hr
  split at hr
  · obtain ⟨h1, h3⟩ := jx_n64_i hr
    first | exact hK _ _ _ _ h3 | exact jx_le_s (hK _ _ _ _ h3)
  · cases hr
theorem mo_F2 (f : UInt32 → UInt32 → UInt32) (nx : Nat) : jx_Mo (o_F2 f nx) := by
  intro C K r hC hK ls st h hr
  unfold o_F2 at hr
  split at hr
  · obtain ⟨h1, h3⟩ := jx_n32_i hr
    first | exact hK _ _ _ _ h3 | exact jx_le_s (hK _ _ _ _ h3)
  · cases hr
theorem mo_D2 (f : UInt64 → UInt64 → UInt64) (nx : Nat) : jx_Mo (o_D2 f nx) := by
  intro C K r hC hK ls st h hr
  unfold o_D2 at hr
  split at hr
  · obtain ⟨h1, h3⟩ := jx_n64_i hr
    first | exact hK _ _ _ _ h3 | exact jx_le_s (hK _ _ _ _ h3)
  · cases hr
theorem mo_cV (m n rt nx : Nat) : jx_Mo (o_cV m n rt nx) := by
  intro C K r hC hK ls st h hr
  unfold o_cV at hr
  obtain ⟨us, rest, rfl, rfl, hk, hq0⟩ := jx_tk_i hr
  obtain ⟨hq, hrc, -⟩ := jx_rc_i hq0
  rcases jx_cV_i hq with ⟨h2, e1, h3⟩ | ⟨e, h2, e1, rfl⟩
  · exact jx_le_t (hC _ _ _ _ e1) (hK _ _ _ _ h3)
  · exact hC _ _ _ _ e1
theorem mo_cI (m n rt nx : Nat) : jx_Mo (o_cI m n rt nx) := by
  intro C K r hC hK ls st h hr
  unfold o_cI at hr
  obtain ⟨us, rest, rfl, rfl, hk, hq0⟩ := jx_tk_i hr
  obtain ⟨hq, hrc, -⟩ := jx_rc_i hq0
  rcases jx_cI_i hq with ⟨x, h2, e1, h3⟩ | ⟨e, h2, e1, rfl⟩
  · exact jx_le_t (hC _ _ _ _ e1) (hK _ _ _ _ h3)
  · exact hC _ _ _ _ e1
theorem mo_cL (m n rt nx : Nat) : jx_Mo (o_cL m n rt nx) := by
  intro C K r hC hK ls st h hr
  unfold o_cL at hr
  obtain ⟨us, rest, rfl, rfl, hk, hq0⟩ := jx_tk_i hr
  obtain ⟨hq, hrc, -⟩ := jx_rc_i hq0
  rcases jx_cL_i hq with ⟨x, h2, e1, h3⟩ | ⟨e, h2, e1, rfl⟩
  · exact jx_le_t (hC _ _ _ _ e1) (hK _ _ _ _ h3)
  · exact hC _ _ _ _ e1
theorem mo_cF (m n rt nx : Nat) : jx_Mo (o_cF m n rt nx) := by
  intro C K r hC hK ls st h hr
  unfold o_cF at hr
  obtain ⟨us, rest, rfl, rfl, hk, hq0⟩ := jx_tk_i hr
  obtain ⟨hq, hrc, -⟩ := jx_rc_i hq0
  rcases jx_cF_i hq with ⟨x, h2, e1, h3⟩ | ⟨e, h2, e1, rfl⟩
  · exact jx_le_t (hC _ _ _ _ e1) (hK _ _ _ _ h3)
  · exact hC _ _ _ _ e1
theorem mo_cD (m n rt nx : Nat) : jx_Mo (o_cD m n rt nx) := by
  intro C K r hC hK ls st h hr
  unfold o_cD at hr
  obtain ⟨us, rest, rfl, rfl, hk, hq0⟩ := jx_tk_i hr
  obtain ⟨hq, hrc, -⟩ := jx_rc_i hq0
  rcases jx_cD_i hq with ⟨x, h2, e1, h3⟩ | ⟨e, h2, e1, rfl⟩
  · exact jx_le_t (hC _ _ _ _ e1) (hK _ _ _ _ h3)
  · exact hC _ _ _ _ e1
theorem mo_cA (m n rt nx : Nat) : jx_Mo (o_cA m n rt nx) := by
  intro C K r hC hK ls st h hr
  unfold o_cA at hr
  obtain ⟨us, rest, rfl, rfl, hk, hq0⟩ := jx_tk_i hr
  obtain ⟨hq, hrc, -⟩ := jx_rc_i hq0
  rcases jx_cA_i hq with ⟨x, h2, e1, h3⟩ | ⟨e, h2, e1, rfl⟩
  · exact jx_le_t (hC _ _ _ _ e1) (hK _ _ _ _ h3)
  · exact hC _ _ _ _ e1
theorem mo_cN (m n rt nx : Nat) : jx_Mo (o_cN m n rt nx) := by
  intro C K r hC hK ls st h hr
  unfold o_cN at hr
  obtain ⟨us, rest, rfl, rfl, hk, hq0⟩ := jx_tk_i hr
  obtain ⟨hq, hrc, -⟩ := jx_rc_i hq0
  rcases jx_cN_i hq with ⟨x, h2, e1, h3⟩ | ⟨h2, e1, h3⟩ | ⟨e, h2, e1, rfl⟩
  · exact jx_le_t (hC _ _ _ _ e1) (hK _ _ _ _ h3)
  · exact jx_le_t (hC _ _ _ _ e1) (hK _ _ _ _ h3)
  · exact hC _ _ _ _ e1
theorem mo_hI (m n rt : Nat) (hs : List (String × Nat)) (nx : Nat) : jx_Mo (o_hI m n rt hs nx) := by
  intro C K r hC hK ls st h hr
  unfold o_hI at hr
  obtain ⟨us, rest, rfl, rfl, hk, hq0⟩ := jx_tk_i hr
  obtain ⟨hq, hrc, -⟩ := jx_rc_i hq0
  rcases jx_hI_i hq with ⟨x, h2, e1, h3⟩ | ⟨e, h2, e1, h3⟩
  · exact jx_le_t (hC _ _ _ _ e1) (hK _ _ _ _ h3)
  · rcases jx_hd_i h3 with ⟨t, -, h4, -⟩ | ⟨h4, -⟩
    · exact jx_le_t (hC _ _ _ _ e1) (hK _ _ _ _ h4)
    · cases h4
theorem mo_hL (m n rt : Nat) (hs : List (String × Nat)) (nx : Nat) : jx_Mo (o_hL m n rt hs nx) := by
  intro C K r hC hK ls st h hr
  unfold o_hL at hr
  obtain ⟨us, rest, rfl, rfl, hk, hq0⟩ := jx_tk_i hr
  obtain ⟨hq, hrc, -⟩ := jx_rc_i hq0
  rcases jx_hL_i hq with ⟨x, h2, e1, h3⟩ | ⟨e, h2, e1, h3⟩
  · exact jx_le_t (hC _ _ _ _ e1) (hK _ _ _ _ h3)
  · rcases jx_hd_i h3 with ⟨t, -, h4, -⟩ | ⟨h4, -⟩
    · exact jx_le_t (hC _ _ _ _ e1) (hK _ _ _ _ h4)
    · cases h4
theorem mo_hF (m n rt : Nat) (hs : List (String × Nat)) (nx : Nat) : jx_Mo (o_hF m n rt hs nx) := by
  intro C K r hC hK ls st h hr
  unfold o_hF at hr
  obtain ⟨us, rest, rfl, rfl, hk, hq0⟩ := jx_tk_i hr
  obtain ⟨hq, hrc, -⟩ := jx_rc_i hq0
  rcases jx_hF_i hq with ⟨x, h2, e1, h3⟩ | ⟨e, h2, e1, h3⟩
  · exact jx_le_t (hC _ _ _ _ e1) (hK _ _ _ _ h3)
  · rcases jx_hd_i h3 with ⟨t, -, h4, -⟩ | ⟨h4, -⟩
    · exact jx_le_t (hC _ _ _ _ e1) (hK _ _ _ _ h4)
    · cases h4
theorem mo_hD (m n rt : Nat) (hs : List (String × Nat)) (nx : Nat) : jx_Mo (o_hD m n rt hs nx) := by
  intro C K r hC hK ls st h hr
  unfold o_hD at hr
  obtain ⟨us, rest, rfl, rfl, hk, hq0⟩ := jx_tk_i hr
  obtain ⟨hq, hrc, -⟩ := jx_rc_i hq0
  rcases jx_hD_i hq with ⟨x, h2, e1, h3⟩ | ⟨e, h2, e1, h3⟩
  · exact jx_le_t (hC _ _ _ _ e1) (hK _ _ _ _ h3)
  · rcases jx_hd_i h3 with ⟨t, -, h4, -⟩ | ⟨h4, -⟩
    · exact jx_le_t (hC _ _ _ _ e1) (hK _ _ _ _ h4)
    · cases h4
theorem fm_ic (v : Int32) (nx : Nat) : jx_FM (o_ic v nx) := ⟨fin_ic v nx, mo_ic v nx⟩
theorem fm_lc (v : Int64) (nx : Nat) : jx_FM (o_lc v nx) := ⟨fin_lc v nx, mo_lc v nx⟩
theorem fm_fc (v : UInt32) (nx : Nat) : jx_FM (o_fc v nx) := ⟨fin_fc v nx, mo_fc v nx⟩
theorem fm_dc (v : UInt64) (nx : Nat) : jx_FM (o_dc v nx) := ⟨fin_dc v nx, mo_dc v nx⟩
theorem fm_rc (a nx : Nat) : jx_FM (o_rc a nx) := ⟨fin_rc a nx, mo_rc a nx⟩
theorem fm_jc (nx : Nat) : jx_FM (o_jc nx) := ⟨fin_jc nx, mo_jc nx⟩
theorem fm_nc (nx : Nat) : jx_FM (o_nc nx) := ⟨fin_nc nx, mo_nc nx⟩
theorem fm_il (i nx : Nat) : jx_FM (o_il i nx) := ⟨fin_il i nx, mo_il i nx⟩
theorem fm_ll (i nx : Nat) : jx_FM (o_ll i nx) := ⟨fin_ll i nx, mo_ll i nx⟩
theorem fm_fl (i nx : Nat) : jx_FM (o_fl i nx) := ⟨fin_fl i nx, mo_fl i nx⟩
theorem fm_dl (i nx : Nat) : jx_FM (o_dl i nx) := ⟨fin_dl i nx, mo_dl i nx⟩
theorem fm_al (i nx : Nat) : jx_FM (o_al i nx) := ⟨fin_al i nx, mo_al i nx⟩
theorem fm_is (i nx : Nat) : jx_FM (o_is i nx) := ⟨fin_is i nx, mo_is i nx⟩
theorem fm_ls (i nx : Nat) : jx_FM (o_ls i nx) := ⟨fin_ls i nx, mo_ls i nx⟩
theorem fm_fs (i nx : Nat) : jx_FM (o_fs i nx) := ⟨fin_fs i nx, mo_fs i nx⟩
theorem fm_ds (i nx : Nat) : jx_FM (o_ds i nx) := ⟨fin_ds i nx, mo_ds i nx⟩
theorem fm_as (i nx : Nat) : jx_FM (o_as i nx) := ⟨fin_as i nx, mo_as i nx⟩
theorem fm_aj (i nx : Nat) : jx_FM (o_aj i nx) := ⟨fin_aj i nx, mo_aj i nx⟩
theorem fm_inc (i : Nat) (n : Int32) (nx : Nat) : jx_FM (o_inc i n nx) := ⟨fin_inc i n nx, mo_inc i n nx⟩
theorem fm_b2 (f : Int32 → Int32 → Int32) (nx : Nat) : jx_FM (o_b2 f nx) := ⟨fin_b2 f nx, mo_b2 f nx⟩
theorem fm_B2 (f : Int64 → Int64 → Int64) (nx : Nat) : jx_FM (o_B2 f nx) := ⟨fin_B2 f nx, mo_B2 f nx⟩
theorem fm_Sh (f : Int64 → Int32 → Int64) (nx : Nat) : jx_FM (o_Sh f nx) := ⟨fin_Sh f nx, mo_Sh f nx⟩
theorem fm_u (f : Int32 → Int32) (nx : Nat) : jx_FM (o_u f nx) := ⟨fin_u f nx, mo_u f nx⟩
theorem fm_i2l (nx : Nat) : jx_FM (o_i2l nx) := ⟨fin_i2l nx, mo_i2l nx⟩
theorem fm_l2i (nx : Nat) : jx_FM (o_l2i nx) := ⟨fin_l2i nx, mo_l2i nx⟩
theorem fm_lcmp (nx : Nat) : jx_FM (o_lcmp nx) := ⟨fin_lcmp nx, mo_lcmp nx⟩
theorem fm_i2f (nx : Nat) : jx_FM (o_i2f nx) := ⟨fin_i2f nx, mo_i2f nx⟩
theorem fm_i2d (nx : Nat) : jx_FM (o_i2d nx) := ⟨fin_i2d nx, mo_i2d nx⟩
theorem fm_f2i (nx : Nat) : jx_FM (o_f2i nx) := ⟨fin_f2i nx, mo_f2i nx⟩
theorem fm_fcmp (o : CmpOp) (nx : Nat) : jx_FM (o_fcmp o nx) := ⟨fin_fcmp o nx, mo_fcmp o nx⟩
theorem fm_dcmp (o : CmpOp) (nx : Nat) : jx_FM (o_dcmp o nx) := ⟨fin_dcmp o nx, mo_dcmp o nx⟩
theorem fm_dup (nx : Nat) : jx_FM (o_dup nx) := ⟨fin_dup nx, mo_dup nx⟩
theorem fm_d11 (nx : Nat) : jx_FM (o_d11 nx) := ⟨fin_d11 nx, mo_d11 nx⟩
theorem fm_pop (nx : Nat) : jx_FM (o_pop nx) := ⟨fin_pop nx, mo_pop nx⟩
theorem fm_go (t : Nat) : jx_FM (o_go t) := ⟨fin_go t, mo_go t⟩
theorem fm_nul (t nx : Nat) : jx_FM (o_nul t nx) := ⟨fin_nul t nx, mo_nul t nx⟩
theorem fm_nnl (t nx : Nat) : jx_FM (o_nnl t nx) := ⟨fin_nnl t nx, mo_nnl t nx⟩
theorem fm_bad  : jx_FM (o_bad ) := ⟨fin_bad, mo_bad⟩
theorem fm_rV  : jx_FM (o_rV ) := ⟨fin_rV, mo_rV⟩
theorem fm_rI  : jx_FM (o_rI ) := ⟨fin_rI, mo_rI⟩
theorem fm_rL  : jx_FM (o_rL ) := ⟨fin_rL, mo_rL⟩
theorem fm_rF  : jx_FM (o_rF ) := ⟨fin_rF, mo_rF⟩
theorem fm_rD  : jx_FM (o_rD ) := ⟨fin_rD, mo_rD⟩
theorem fm_rA  : jx_FM (o_rA ) := ⟨fin_rA, mo_rA⟩
theorem fm_new (t : Nat) (fs : List Value) (nx : Nat) : jx_FM (o_new t fs nx) := ⟨fin_new t fs nx, mo_new t fs nx⟩
theorem fm_div (nx : Nat) : jx_FM (o_div nx) := ⟨fin_div nx, mo_div nx⟩
theorem fm_rem (nx : Nat) : jx_FM (o_rem nx) := ⟨fin_rem nx, mo_rem nx⟩
theorem fm_na (t : Nat) (v : Value) (nx : Nat) : jx_FM (o_na t v nx) := ⟨fin_na t v nx, mo_na t v nx⟩
theorem fm_rZ  : jx_FM (o_rZ ) := ⟨fin_rZ, mo_rZ⟩
theorem fm_rC  : jx_FM (o_rC ) := ⟨fin_rC, mo_rC⟩
theorem fm_rB  : jx_FM (o_rB ) := ⟨fin_rB, mo_rB⟩
theorem fm_eq (t nx : Nat) : jx_FM (o_eq t nx) := ⟨fin_eq t nx, mo_eq t nx⟩
theorem fm_ne (t nx : Nat) : jx_FM (o_ne t nx) := ⟨fin_ne t nx, mo_ne t nx⟩
theorem fm_lt (t nx : Nat) : jx_FM (o_lt t nx) := ⟨fin_lt t nx, mo_lt t nx⟩
theorem fm_ge (t nx : Nat) : jx_FM (o_ge t nx) := ⟨fin_ge t nx, mo_ge t nx⟩
theorem fm_gt (t nx : Nat) : jx_FM (o_gt t nx) := ⟨fin_gt t nx, mo_gt t nx⟩
theorem fm_le (t nx : Nat) : jx_FM (o_le t nx) := ⟨fin_le t nx, mo_le t nx⟩
theorem fm_ceq (t nx : Nat) : jx_FM (o_ceq t nx) := ⟨fin_ceq t nx, mo_ceq t nx⟩
theorem fm_cne (t nx : Nat) : jx_FM (o_cne t nx) := ⟨fin_cne t nx, mo_cne t nx⟩
theorem fm_clt (t nx : Nat) : jx_FM (o_clt t nx) := ⟨fin_clt t nx, mo_clt t nx⟩
theorem fm_cge (t nx : Nat) : jx_FM (o_cge t nx) := ⟨fin_cge t nx, mo_cge t nx⟩
theorem fm_cgt (t nx : Nat) : jx_FM (o_cgt t nx) := ⟨fin_cgt t nx, mo_cgt t nx⟩
theorem fm_cle (t nx : Nat) : jx_FM (o_cle t nx) := ⟨fin_cle t nx, mo_cle t nx⟩
theorem fm_ane (t nx : Nat) : jx_FM (o_ane t nx) := ⟨fin_ane t nx, mo_ane t nx⟩
theorem fm_sw (d : Nat) (ts : List (Int32 × Nat)) : jx_FM (o_sw d ts) := ⟨fin_sw d ts, mo_sw d ts⟩
theorem fm_gI (t k nx : Nat) : jx_FM (o_gI t k nx) := ⟨fin_gI t k nx, mo_gI t k nx⟩
theorem fm_gA (t k nx : Nat) : jx_FM (o_gA t k nx) := ⟨fin_gA t k nx, mo_gA t k nx⟩
theorem fm_pI (t k nx : Nat) : jx_FM (o_pI t k nx) := ⟨fin_pI t k nx, mo_pI t k nx⟩
theorem fm_lI (t nx : Nat) : jx_FM (o_lI t nx) := ⟨fin_lI t nx, mo_lI t nx⟩
theorem fm_lL (t nx : Nat) : jx_FM (o_lL t nx) := ⟨fin_lL t nx, mo_lL t nx⟩
theorem fm_lD (t nx : Nat) : jx_FM (o_lD t nx) := ⟨fin_lD t nx, mo_lD t nx⟩
theorem fm_lA (t nx : Nat) : jx_FM (o_lA t nx) := ⟨fin_lA t nx, mo_lA t nx⟩
theorem fm_sI (t nx : Nat) : jx_FM (o_sI t nx) := ⟨fin_sI t nx, mo_sI t nx⟩
theorem fm_sC (t nx : Nat) : jx_FM (o_sC t nx) := ⟨fin_sC t nx, mo_sC t nx⟩
theorem fm_sL (t nx : Nat) : jx_FM (o_sL t nx) := ⟨fin_sL t nx, mo_sL t nx⟩
theorem fm_sD (t nx : Nat) : jx_FM (o_sD t nx) := ⟨fin_sD t nx, mo_sD t nx⟩
theorem fm_len (nx : Nat) : jx_FM (o_len nx) := ⟨fin_len nx, mo_len nx⟩
theorem fm_cp (t nx : Nat) : jx_FM (o_cp t nx) := ⟨fin_cp t nx, mo_cp t nx⟩
theorem fm_pZ (t k nx : Nat) : jx_FM (o_pZ t k nx) := ⟨fin_pZ t k nx, mo_pZ t k nx⟩
theorem fm_pC (t k nx : Nat) : jx_FM (o_pC t k nx) := ⟨fin_pC t k nx, mo_pC t k nx⟩
theorem fm_raw (nx : Nat) : jx_FM (o_raw nx) := ⟨fin_raw nx, mo_raw nx⟩
theorem fm_obj (nx : Nat) : jx_FM (o_obj nx) := ⟨fin_obj nx, mo_obj nx⟩
theorem fm_th (e : String) : jx_FM (o_th e) := ⟨fin_th e, mo_th e⟩
theorem fm_pA (t k tv nx : Nat) : jx_FM (o_pA t k tv nx) := ⟨fin_pA t k tv nx, mo_pA t k tv nx⟩
theorem fm_sA (t tv nx : Nat) : jx_FM (o_sA t tv nx) := ⟨fin_sA t tv nx, mo_sA t tv nx⟩
theorem fm_lN (t nx : Nat) : jx_FM (o_lN t nx) := ⟨fin_lN t nx, mo_lN t nx⟩
theorem fm_f2d (nx : Nat) : jx_FM (o_f2d nx) := ⟨fin_f2d nx, mo_f2d nx⟩
theorem fm_F2 (f : UInt32 → UInt32 → UInt32) (nx : Nat) : jx_FM (o_F2 f nx) := ⟨fin_F2 f nx, mo_F2 f nx⟩
theorem fm_D2 (f : UInt64 → UInt64 → UInt64) (nx : Nat) : jx_FM (o_D2 f nx) := ⟨fin_D2 f nx, mo_D2 f nx⟩
theorem fm_cV (m n rt nx : Nat) : jx_FM (o_cV m n rt nx) := ⟨fin_cV m n rt nx, mo_cV m n rt nx⟩
theorem fm_cI (m n rt nx : Nat) : jx_FM (o_cI m n rt nx) := ⟨fin_cI m n rt nx, mo_cI m n rt nx⟩
theorem fm_cL (m n rt nx : Nat) : jx_FM (o_cL m n rt nx) := ⟨fin_cL m n rt nx, mo_cL m n rt nx⟩
theorem fm_cF (m n rt nx : Nat) : jx_FM (o_cF m n rt nx) := ⟨fin_cF m n rt nx, mo_cF m n rt nx⟩
theorem fm_cD (m n rt nx : Nat) : jx_FM (o_cD m n rt nx) := ⟨fin_cD m n rt nx, mo_cD m n rt nx⟩
theorem fm_cA (m n rt nx : Nat) : jx_FM (o_cA m n rt nx) := ⟨fin_cA m n rt nx, mo_cA m n rt nx⟩
theorem fm_cN (m n rt nx : Nat) : jx_FM (o_cN m n rt nx) := ⟨fin_cN m n rt nx, mo_cN m n rt nx⟩
theorem fm_hI (m n rt : Nat) (hs : List (String × Nat)) (nx : Nat) : jx_FM (o_hI m n rt hs nx) := ⟨fin_hI m n rt hs nx, mo_hI m n rt hs nx⟩
theorem fm_hL (m n rt : Nat) (hs : List (String × Nat)) (nx : Nat) : jx_FM (o_hL m n rt hs nx) := ⟨fin_hL m n rt hs nx, mo_hL m n rt hs nx⟩
theorem fm_hF (m n rt : Nat) (hs : List (String × Nat)) (nx : Nat) : jx_FM (o_hF m n rt hs nx) := ⟨fin_hF m n rt hs nx, mo_hF m n rt hs nx⟩
theorem fm_hD (m n rt : Nat) (hs : List (String × Nat)) (nx : Nat) : jx_FM (o_hD m n rt hs nx) := ⟨fin_hD m n rt hs nx, mo_hD m n rt hs nx⟩
end JX
