/-! A small machine of my own: each instruction a function in continuation form; the real machine follows it (later parts). -/
section JX
/-- an object or array: its kind, its fields or elements -/
abbrev jx_Ob : Type := Nat × List Value
/-- the heap: cells by number, next number, cells and slots used -/
abbrev jx_H : Type := (Nat → Option jx_Ob) × Nat × Nat × Nat
/-- returned (with a value or none), or threw an exception of the named kind -/
abbrev jx_O : Type := (Option Value ⊕ String) × jx_H
abbrev jx_R : Type := Option jx_O
abbrev jx_K : Type := Nat → List Value → List Value → jx_H → jx_R
abbrev jx_C : Type := Nat → List Value → jx_H → jx_R
abbrev jx_Op : Type := jx_C → List Value → List Value → jx_H → jx_K → jx_R
/-- what is not known of a place -/
abbrev jx_j : Value := .retAddr 0
/-- how many numbers below are constants (read, never written) -/
abbrev jx_nc : Nat := 200
def jx_set (h : jx_H) (a : Nat) (o : jx_Ob) : jx_H := (fun q => bif q == a then some o else h.1 q, h.2)
def jx_add (h : jx_H) (o : jx_Ob) (n : Nat) : jx_H := (fun q => bif q == h.2.1 then some o else h.1 q, h.2.1 + 1, h.2.2.1 + 1, h.2.2.2 + n)
def jx_thr (h : jx_H) : jx_H := (h.1, h.2.1 + 1, h.2.2.1 + 1, h.2.2.2 + 6)
-- reading and writing
def jx_gI (h : jx_H) (a t k : Nat) (f : Int32 → jx_R) : jx_R := match h.1 a with
  | some (t', fs) => bif t' == t then (match fs[k]? with | some (.int x) => f x | _ => none) else none
  | none => none
def jx_gA (h : jx_H) (a t k : Nat) (f : Nat → jx_R) : jx_R := match h.1 a with
  | some (t', fs) => bif t' == t then (match fs[k]? with | some (.ref x) => f x | _ => none) else none
  | none => none
def jx_pt (h : jx_H) (a t k : Nat) (v : Value) (f : jx_H → jx_R) : jx_R := match h.1 a with
  | some (t', fs) => bif (t' == t && Nat.ble jx_nc a && Nat.blt k fs.length) then f (jx_set h a (t, fs.set k v)) else none
  | none => none
def jx_lI (h : jx_H) (a t : Nat) (i : Int32) (f : Int32 → jx_R) : jx_R := match h.1 a with
  | some (t', vs) => bif (t' == t && decide (0 ≤ i)) then (match vs[i.toNatClampNeg]? with | some (.int x) => f x | _ => none) else none
  | none => none
def jx_lL (h : jx_H) (a t : Nat) (i : Int32) (f : Int64 → jx_R) : jx_R := match h.1 a with
  | some (t', vs) => bif (t' == t && decide (0 ≤ i)) then (match vs[i.toNatClampNeg]? with | some (.long x) => f x | _ => none) else none
  | none => none
def jx_lD (h : jx_H) (a t : Nat) (i : Int32) (f : UInt64 → jx_R) : jx_R := match h.1 a with
  | some (t', vs) => bif (t' == t && decide (0 ≤ i)) then (match vs[i.toNatClampNeg]? with | some (.double x) => f x | _ => none) else none
  | none => none
def jx_lA (h : jx_H) (a t : Nat) (i : Int32) (f : Nat → jx_R) : jx_R := match h.1 a with
  | some (t', vs) => bif (t' == t && decide (0 ≤ i)) then (match vs[i.toNatClampNeg]? with | some (.ref x) => f x | _ => none) else none
  | none => none
def jx_lN (h : jx_H) (a t : Nat) (i : Int32) (f : Nat → jx_R) (g : jx_R) : jx_R := match h.1 a with
  | some (t', vs) => bif (t' == t && decide (0 ≤ i)) then (match vs[i.toNatClampNeg]? with | some (.ref x) => f x | some .null => g | _ => none) else none
  | none => none
def jx_st (h : jx_H) (a t : Nat) (i : Int32) (v : Value) (f : jx_H → jx_R) : jx_R := match h.1 a with
  | some (t', vs) => bif (t' == t && decide (0 ≤ i) && Nat.ble jx_nc a && Nat.blt i.toNatClampNeg vs.length) then f (jx_set h a (t, vs.set i.toNatClampNeg v)) else none
  | none => none
def jx_sz (h : jx_H) (a : Nat) (f : Nat → jx_R) : jx_R := match h.1 a with
  | some (t', vs) => bif Nat.ble 100 t' then f vs.length else none
  | none => none
/-- a kind of object at a place -/
def jx_is (h : jx_H) (a t : Nat) (f : jx_R) : jx_R := match h.1 a with
  | some (t', _) => bif t' == t then f else none
  | none => none
-- calls
def jx_cV (C : jx_C) (m : Nat) (as : List Value) (h : jx_H) (f : jx_H → jx_R) : jx_R := match C m as h with
  | some (.inl none, h') => f h'
  | some (.inr e, h') => some (.inr e, h')
  | _ => none
def jx_cI (C : jx_C) (m : Nat) (as : List Value) (h : jx_H) (f : Int32 → jx_H → jx_R) : jx_R := match C m as h with
  | some (.inl (some (.int x)), h') => f x h'
  | some (.inr e, h') => some (.inr e, h')
  | _ => none
def jx_cL (C : jx_C) (m : Nat) (as : List Value) (h : jx_H) (f : Int64 → jx_H → jx_R) : jx_R := match C m as h with
  | some (.inl (some (.long x)), h') => f x h'
  | some (.inr e, h') => some (.inr e, h')
  | _ => none
def jx_cF (C : jx_C) (m : Nat) (as : List Value) (h : jx_H) (f : UInt32 → jx_H → jx_R) : jx_R := match C m as h with
  | some (.inl (some (.float x)), h') => f x h'
  | some (.inr e, h') => some (.inr e, h')
  | _ => none
def jx_cD (C : jx_C) (m : Nat) (as : List Value) (h : jx_H) (f : UInt64 → jx_H → jx_R) : jx_R := match C m as h with
  | some (.inl (some (.double x)), h') => f x h'
  | some (.inr e, h') => some (.inr e, h')
  | _ => none
def jx_cA (C : jx_C) (m : Nat) (as : List Value) (h : jx_H) (f : Nat → jx_H → jx_R) : jx_R := match C m as h with
  | some (.inl (some (.ref x)), h') => f x h'
  | some (.inr e, h') => some (.inr e, h')
  | _ => none
def jx_cN (C : jx_C) (m : Nat) (as : List Value) (h : jx_H) (f : Nat → jx_H → jx_R) (g : jx_H → jx_R) : jx_R := match C m as h with
  | some (.inl (some (.ref x)), h') => f x h'
  | some (.inl (some .null), h') => g h'
  | some (.inr e, h') => some (.inr e, h')
  | _ => none
end JX
