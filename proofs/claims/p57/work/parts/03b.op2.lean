/-! More instructions: rows of bytes and of truth values, a byte field, a row's copy. -/
section JX
def o_sB (t nx : Nat) : jx_Op := fun _ ls st h K => match st with | .int x :: .int i :: .ref a :: r => jx_st h a t i (.int x.toInt8.toInt32) (fun h' => K nx ls r h') | _ => none
def o_sZ (t nx : Nat) : jx_Op := fun _ ls st h K => match st with | .int x :: .int i :: .ref a :: r => if x = 0 ∨ x = 1 then jx_st h a t i (.int x) (fun h' => K nx ls r h') else none | _ => none
def o_pB (t k nx : Nat) : jx_Op := fun _ ls st h K => match st with | .int x :: .ref a :: r => if 0 ≤ x ∧ x < 128 then jx_pt h a t k (.int x) (fun h' => K nx ls r h') else none | _ => none
def o_dx1 (nx : Nat) : jx_Op := fun _ ls st h K => match st with | .int a :: .ref b :: r => K nx ls (.int a :: .ref b :: .int a :: r) h | _ => none
/-- a small number -/
def jx_b7 (v : Value) : Bool := match v with | .int x => decide (0 ≤ x) && decide (x < 128) | _ => false
/-- a row that may be copied -/
def jx_cln (h : jx_H) (a t : Nat) (f : List Value → jx_R) : jx_R := match h.1 a with
  | some (t', vs) => if t' = t ∧ jx_nc ≤ a ∧ vs.all jx_b7 = true ∧ vs.length ≤ 4096 ∧ h.2.1 = h.2.2.1 + jx_nc then f vs else none
  | none => none
/-- a row's copy -/
def o_cl (t nx : Nat) : jx_Op := fun _ ls st h K => match st with
  | .ref a :: r => jx_cln h a t (fun vs => jx_ck r (K nx ls (.ref h.2.1 :: r) (jx_add h (t, vs) vs.length)))
  | _ => none
/-- a cast that holds -/
def o_ca (t nx : Nat) : jx_Op := fun _ ls st h K => match st with | .ref a :: r => if jx_nc ≤ a then jx_is h a t (K nx ls (.ref a :: r) h) else none | _ => none
end JX
