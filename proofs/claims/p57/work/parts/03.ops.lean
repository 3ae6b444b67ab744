section JX
-- locals
def jx_w (v : Value) : Bool := match v with | .long _ => true | .double _ => true | _ => false
def jx_kp (ls : List Value) (i : Nat) : List Value := match i with
  | 0 => ls
  | i + 1 => match ls[i]? with | some v => bif jx_w v then ls.set i jx_j else ls | none => ls
def jx_s1 (ls : List Value) (i : Nat) (v : Value) : List Value := (jx_kp ls i).set i v
def jx_s2 (ls : List Value) (i : Nat) (v : Value) : List Value := ((jx_kp ls i).set i v).set (i + 1) jx_j
def jx_sp (as : List Value) : List Value := match as with
  | [] => []
  | a :: r => bif jx_w a then a :: jx_j :: jx_sp r else a :: jx_sp r
def jx_en (n : Nat) (as : List Value) : List Value := jx_sp as ++ List.replicate (n - (jx_sp as).length) jx_j
/-- how much a stack holds, by categories -/
def jx_cat (st : List Value) : Nat := match st with
  | [] => 0
  | a :: r => (bif jx_w a then 2 else 1) + jx_cat r
def jx_ck (st : List Value) (f : jx_R) : jx_R := bif Nat.ble (jx_cat st) 8 then f else none
/-- the upper n of a stack, as arguments -/
def jx_tk (n : Nat) (st acc : List Value) (f : List Value → List Value → jx_R) : jx_R := match n, st with
  | 0, st => jx_ck st (f acc st)
  | n + 1, a :: r => jx_tk n r (a :: acc) f
  | _ + 1, [] => none
-- instructions: the last argument nx is the next place
def o_bad : jx_Op := fun _ _ _ _ _ => none
def o_ic (v : Int32) (nx : Nat) : jx_Op := fun _ ls st h K => K nx ls (.int v :: st) h
def o_lc (v : Int64) (nx : Nat) : jx_Op := fun _ ls st h K => K nx ls (.long v :: st) h
def o_fc (v : UInt32) (nx : Nat) : jx_Op := fun _ ls st h K => K nx ls (.float v :: st) h
def o_dc (v : UInt64) (nx : Nat) : jx_Op := fun _ ls st h K => K nx ls (.double v :: st) h
def o_rc (a : Nat) (nx : Nat) : jx_Op := fun _ ls st h K => K nx ls (.ref a :: st) h
def o_jc (nx : Nat) : jx_Op := fun _ ls st h K => K nx ls (jx_j :: st) h
def o_nc (nx : Nat) : jx_Op := fun _ ls st h K => K nx ls (.null :: st) h
def o_il (i nx : Nat) : jx_Op := fun _ ls st h K => match ls[i]? with | some (.int x) => K nx ls (.int x :: st) h | _ => none
def o_ll (i nx : Nat) : jx_Op := fun _ ls st h K => match ls[i]? with | some (.long x) => K nx ls (.long x :: st) h | _ => none
def o_fl (i nx : Nat) : jx_Op := fun _ ls st h K => match ls[i]? with | some (.float x) => K nx ls (.float x :: st) h | _ => none
def o_dl (i nx : Nat) : jx_Op := fun _ ls st h K => match ls[i]? with | some (.double x) => K nx ls (.double x :: st) h | _ => none
def o_al (i nx : Nat) : jx_Op := fun _ ls st h K => match ls[i]? with | some (.ref x) => K nx ls (.ref x :: st) h | some .null => K nx ls (.null :: st) h | _ => none
def o_is (i nx : Nat) : jx_Op := fun _ ls st h K => match st with | .int x :: r => K nx (jx_s1 ls i (.int x)) r h | _ => none
def o_ls (i nx : Nat) : jx_Op := fun _ ls st h K => match st with | .long x :: r => K nx (jx_s2 ls i (.long x)) r h | _ => none
def o_fs (i nx : Nat) : jx_Op := fun _ ls st h K => match st with | .float x :: r => K nx (jx_s1 ls i (.float x)) r h | _ => none
def o_ds (i nx : Nat) : jx_Op := fun _ ls st h K => match st with | .double x :: r => K nx (jx_s2 ls i (.double x)) r h | _ => none
def o_as (i nx : Nat) : jx_Op := fun _ ls st h K => match st with | .ref x :: r => K nx (jx_s1 ls i (.ref x)) r h | .null :: r => K nx (jx_s1 ls i .null) r h | _ => none
/-- a caught exception is put away -/
def o_aj (i nx : Nat) : jx_Op := fun _ ls st h K => match st with | .retAddr 0 :: r => K nx (jx_s1 ls i jx_j) r h | _ => none
def o_inc (i : Nat) (n : Int32) (nx : Nat) : jx_Op := fun _ ls st h K => match ls[i]? with | some (.int x) => K nx (jx_s1 ls i (.int (x + n))) st h | _ => none
-- arithmetic
def o_b2 (f : Int32 → Int32 → Int32) (nx : Nat) : jx_Op := fun _ ls st h K => match st with | .int y :: .int x :: r => K nx ls (.int (f x y) :: r) h | _ => none
def o_div (nx : Nat) : jx_Op := fun _ ls st h K => match st with | .int y :: .int x :: r => if y = 0 then none else K nx ls (.int (x / y) :: r) h | _ => none
def o_rem (nx : Nat) : jx_Op := fun _ ls st h K => match st with | .int y :: .int x :: r => if y = 0 then none else K nx ls (.int (x - x / y * y) :: r) h | _ => none
def o_B2 (f : Int64 → Int64 → Int64) (nx : Nat) : jx_Op := fun _ ls st h K => match st with | .long y :: .long x :: r => K nx ls (.long (f x y) :: r) h | _ => none
def o_Sh (f : Int64 → Int32 → Int64) (nx : Nat) : jx_Op := fun _ ls st h K => match st with | .int y :: .long x :: r => K nx ls (.long (f x y) :: r) h | _ => none
def o_u (f : Int32 → Int32) (nx : Nat) : jx_Op := fun _ ls st h K => match st with | .int x :: r => K nx ls (.int (f x) :: r) h | _ => none
def o_i2l (nx : Nat) : jx_Op := fun _ ls st h K => match st with | .int x :: r => K nx ls (.long x.toInt64 :: r) h | _ => none
def o_l2i (nx : Nat) : jx_Op := fun _ ls st h K => match st with | .long x :: r => K nx ls (.int x.toInt32 :: r) h | _ => none
def o_lcmp (nx : Nat) : jx_Op := fun _ ls st h K => match st with | .long y :: .long x :: r => K nx ls (.int (lg_cmp x y) :: r) h | _ => none
def o_i2f (nx : Nat) : jx_Op := fun _ ls st h K => match st with | .int x :: r => K nx ls (.float (FP.i2f x) :: r) h | _ => none
def o_i2d (nx : Nat) : jx_Op := fun _ ls st h K => match st with | .int x :: r => K nx ls (.double (FP.i2d x) :: r) h | _ => none
def o_f2i (nx : Nat) : jx_Op := fun _ ls st h K => match st with | .float x :: r => K nx ls (.int (FP.f2i x) :: r) h | _ => none
def jx_n32 (x : UInt32) (f : jx_R) : jx_R := bif isNaN32 x then none else f
def jx_n64 (x : UInt64) (f : jx_R) : jx_R := bif isNaN64 x then none else f
def o_f2d (nx : Nat) : jx_Op := fun _ ls st h K => match st with | .float x :: r => jx_n64 (FP.f2d x) (K nx ls (.double (FP.f2d x) :: r) h) | _ => none
def o_F2 (f : UInt32 → UInt32 → UInt32) (nx : Nat) : jx_Op := fun _ ls st h K => match st with | .float y :: .float x :: r => jx_n32 (f x y) (K nx ls (.float (f x y) :: r) h) | _ => none
def o_D2 (f : UInt64 → UInt64 → UInt64) (nx : Nat) : jx_Op := fun _ ls st h K => match st with | .double y :: .double x :: r => jx_n64 (f x y) (K nx ls (.double (f x y) :: r) h) | _ => none
def o_fcmp (o : CmpOp) (nx : Nat) : jx_Op := fun _ ls st h K => match st with | .float y :: .float x :: r => K nx ls (.int (Op.cmpValue (FP.fcmp x y) o) :: r) h | _ => none
def o_dcmp (o : CmpOp) (nx : Nat) : jx_Op := fun _ ls st h K => match st with | .double y :: .double x :: r => K nx ls (.int (Op.cmpValue (FP.dcmp x y) o) :: r) h | _ => none
def o_raw (nx : Nat) : jx_Op := fun _ ls st h K => match st with | .float x :: r => jx_ck r (K nx ls (.int x.toInt32 :: r) h) | _ => none
-- stack
def o_dup (nx : Nat) : jx_Op := fun _ ls st h K => match st with | .ref a :: r => K nx ls (.ref a :: .ref a :: r) h | .int a :: r => K nx ls (.int a :: .int a :: r) h | _ => none
def o_d11 (nx : Nat) : jx_Op := fun _ ls st h K => match st with | .int a :: .ref b :: r => K nx ls (.int a :: .ref b :: .int a :: .ref b :: r) h | _ => none
def o_pop (nx : Nat) : jx_Op := fun _ ls st h K => match st with | .int _ :: r => K nx ls r h | .ref _ :: r => K nx ls r h | _ => none
-- branches
def o_go (t : Nat) : jx_Op := fun _ ls st h K => K t ls st h
def o_eq (t nx : Nat) : jx_Op := fun _ ls st h K => match st with | .int x :: r => if x = 0 then K t ls r h else K nx ls r h | _ => none
def o_ne (t nx : Nat) : jx_Op := fun _ ls st h K => match st with | .int x :: r => if x = 0 then K nx ls r h else K t ls r h | _ => none
def o_lt (t nx : Nat) : jx_Op := fun _ ls st h K => match st with | .int x :: r => if x < 0 then K t ls r h else K nx ls r h | _ => none
def o_ge (t nx : Nat) : jx_Op := fun _ ls st h K => match st with | .int x :: r => if 0 ≤ x then K t ls r h else K nx ls r h | _ => none
def o_gt (t nx : Nat) : jx_Op := fun _ ls st h K => match st with | .int x :: r => if 0 < x then K t ls r h else K nx ls r h | _ => none
def o_le (t nx : Nat) : jx_Op := fun _ ls st h K => match st with | .int x :: r => if x ≤ 0 then K t ls r h else K nx ls r h | _ => none
def o_ceq (t nx : Nat) : jx_Op := fun _ ls st h K => match st with | .int y :: .int x :: r => if x = y then K t ls r h else K nx ls r h | _ => none
def o_cne (t nx : Nat) : jx_Op := fun _ ls st h K => match st with | .int y :: .int x :: r => if x = y then K nx ls r h else K t ls r h | _ => none
def o_clt (t nx : Nat) : jx_Op := fun _ ls st h K => match st with | .int y :: .int x :: r => if x < y then K t ls r h else K nx ls r h | _ => none
def o_cge (t nx : Nat) : jx_Op := fun _ ls st h K => match st with | .int y :: .int x :: r => if y ≤ x then K t ls r h else K nx ls r h | _ => none
def o_cgt (t nx : Nat) : jx_Op := fun _ ls st h K => match st with | .int y :: .int x :: r => if y < x then K t ls r h else K nx ls r h | _ => none
def o_cle (t nx : Nat) : jx_Op := fun _ ls st h K => match st with | .int y :: .int x :: r => if x ≤ y then K t ls r h else K nx ls r h | _ => none
def o_ane (t nx : Nat) : jx_Op := fun _ ls st h K => match st with | .ref y :: .ref x :: r => if jx_nc ≤ x ∧ jx_nc ≤ y then (if x = y then K nx ls r h else K t ls r h) else none | _ => none
def o_nul (t nx : Nat) : jx_Op := fun _ ls st h K => match st with | .ref _ :: r => K nx ls r h | .null :: r => K t ls r h | _ => none
def o_nnl (t nx : Nat) : jx_Op := fun _ ls st h K => match st with | .ref _ :: r => K t ls r h | .null :: r => K nx ls r h | _ => none
def jx_sw (x : Int32) (d : Nat) (ts : List (Int32 × Nat)) (f : Nat → jx_R) : jx_R := match ts with
  | [] => f d
  | (v, t) :: r => if x = v then f t else jx_sw x d r f
def o_sw (d : Nat) (ts : List (Int32 × Nat)) : jx_Op := fun _ ls st h K => match st with | .int x :: r => jx_sw x d ts (fun t => K t ls r h) | _ => none
-- fields: t the kind of the object, k the place of the field
def o_gI (t k nx : Nat) : jx_Op := fun _ ls st h K => match st with | .ref a :: r => jx_gI h a t k (fun x => K nx ls (.int x :: r) h) | _ => none
def o_gA (t k nx : Nat) : jx_Op := fun _ ls st h K => match st with | .ref a :: r => jx_gA h a t k (fun x => K nx ls (.ref x :: r) h) | _ => none
def o_pI (t k nx : Nat) : jx_Op := fun _ ls st h K => match st with | .int x :: .ref a :: r => jx_pt h a t k (.int x) (fun h' => K nx ls r h') | _ => none
def o_pZ (t k nx : Nat) : jx_Op := fun _ ls st h K => match st with | .int x :: .ref a :: r => if x = 0 ∨ x = 1 then jx_pt h a t k (.int x) (fun h' => K nx ls r h') else none | _ => none
def o_pC (t k nx : Nat) : jx_Op := fun _ ls st h K => match st with | .int x :: .ref a :: r => if 0 ≤ x ∧ x < 65536 then jx_pt h a t k (.int x) (fun h' => K nx ls r h') else none | _ => none
/-- a reference is put: of kind tv -/
def o_pA (t k tv nx : Nat) : jx_Op := fun _ ls st h K => match st with | .ref x :: .ref a :: r => jx_is h x tv (jx_pt h a t k (.ref x) (fun h' => K nx ls r h')) | _ => none
-- arrays
def o_lI (t nx : Nat) : jx_Op := fun _ ls st h K => match st with | .int i :: .ref a :: r => jx_lI h a t i (fun x => K nx ls (.int x :: r) h) | _ => none
def o_lL (t nx : Nat) : jx_Op := fun _ ls st h K => match st with | .int i :: .ref a :: r => jx_lL h a t i (fun x => K nx ls (.long x :: r) h) | _ => none
def o_lD (t nx : Nat) : jx_Op := fun _ ls st h K => match st with | .int i :: .ref a :: r => jx_lD h a t i (fun x => K nx ls (.double x :: r) h) | _ => none
def o_lA (t nx : Nat) : jx_Op := fun _ ls st h K => match st with | .int i :: .ref a :: r => jx_lA h a t i (fun x => K nx ls (.ref x :: r) h) | _ => none
def o_lN (t nx : Nat) : jx_Op := fun _ ls st h K => match st with | .int i :: .ref a :: r => jx_lN h a t i (fun x => K nx ls (.ref x :: r) h) (K nx ls (.null :: r) h) | _ => none
def o_sI (t nx : Nat) : jx_Op := fun _ ls st h K => match st with | .int x :: .int i :: .ref a :: r => jx_st h a t i (.int x) (fun h' => K nx ls r h') | _ => none
def o_sC (t nx : Nat) : jx_Op := fun _ ls st h K => match st with | .int x :: .int i :: .ref a :: r => jx_st h a t i (.int (x.toUInt32 % 65536).toInt32) (fun h' => K nx ls r h') | _ => none
def o_sL (t nx : Nat) : jx_Op := fun _ ls st h K => match st with | .long x :: .int i :: .ref a :: r => jx_st h a t i (.long x) (fun h' => K nx ls r h') | _ => none
def o_sD (t nx : Nat) : jx_Op := fun _ ls st h K => match st with | .double x :: .int i :: .ref a :: r => jx_st h a t i (.double x) (fun h' => K nx ls r h') | _ => none
/-- a reference to an object of kind tv, or null, is stored -/
def o_sA (t tv nx : Nat) : jx_Op := fun _ ls st h K => match st with
  | .ref x :: .int i :: .ref a :: r => jx_is h x tv (jx_st h a t i (.ref x) (fun h' => K nx ls r h'))
  | .null :: .int i :: .ref a :: r => jx_st h a t i .null (fun h' => K nx ls r h')
  | _ => none
def o_len (nx : Nat) : jx_Op := fun _ ls st h K => match st with | .ref a :: r => jx_sz h a (fun n => K nx ls (.int (nI n) :: r) h) | _ => none
def jx_ii (v : Value) : Bool := match v with | .int _ => true | _ => false
/-- System.arraycopy of a row of kind t -/
def jx_cp (h : jx_H) (a b t : Nat) (i j n : Int32) (f : jx_H → jx_R) : jx_R := match h.1 a, h.1 b with
  | some (t1, us), some (t2, vs) => if t1 = t ∧ t2 = t ∧ 0 ≤ i ∧ 0 ≤ j ∧ 0 ≤ n ∧ jx_nc ≤ b ∧ i.toNatClampNeg + n.toNatClampNeg ≤ us.length ∧ j.toNatClampNeg + n.toNatClampNeg ≤ vs.length ∧ us.all jx_ii = true ∧ vs.all jx_ii = true
      then f (jx_set h b (t, vs.take j.toNatClampNeg ++ ((us.drop i.toNatClampNeg).take n.toNatClampNeg) ++ vs.drop (j.toNatClampNeg + n.toNatClampNeg))) else none
  | _, _ => none
def o_cp (t nx : Nat) : jx_Op := fun _ ls st h K => match st with
  | .int n :: .int j :: .ref b :: .int i :: .ref a :: r => jx_ck r (jx_cp h a b t i j n (fun h' => K nx ls r h'))
  | _ => none
-- making
def o_new (t : Nat) (fs : List Value) (nx : Nat) : jx_Op := fun _ ls st h K => if h.2.1 = h.2.2.1 + jx_nc then K nx ls (.ref h.2.1 :: st) (jx_add h (t, fs) fs.length) else none
def o_na (t : Nat) (v : Value) (nx : Nat) : jx_Op := fun _ ls st h K => match st with
  | .int n :: r => if 0 ≤ n ∧ n ≤ 4096 ∧ h.2.1 = h.2.2.1 + jx_nc then K nx ls (.ref h.2.1 :: r) (jx_add h (t, List.replicate n.toNatClampNeg v) n.toNatClampNeg) else none
  | _ => none
/-- Object's own constructor -/
def o_obj (nx : Nat) : jx_Op := fun _ ls st h K => match st with | .ref _ :: r => jx_ck r (K nx ls r h) | _ => none
-- calls
/-- a receiver of its kind: rt the kind and 1, or 0 for none -/
def jx_rc (rt : Nat) (as : List Value) (h : jx_H) (f : jx_R) : jx_R := match rt with
  | 0 => f
  | t + 1 => match as with | .ref a :: _ => jx_is h a t f | _ => none
def o_cV (m n rt nx : Nat) : jx_Op := fun C ls st h K => jx_tk n st [] (fun as r => jx_rc rt as h (jx_cV C m as h (fun h' => K nx ls r h')))
def o_cI (m n rt nx : Nat) : jx_Op := fun C ls st h K => jx_tk n st [] (fun as r => jx_rc rt as h (jx_cI C m as h (fun x h' => K nx ls (.int x :: r) h')))
def o_cL (m n rt nx : Nat) : jx_Op := fun C ls st h K => jx_tk n st [] (fun as r => jx_rc rt as h (jx_cL C m as h (fun x h' => K nx ls (.long x :: r) h')))
def o_cF (m n rt nx : Nat) : jx_Op := fun C ls st h K => jx_tk n st [] (fun as r => jx_rc rt as h (jx_cF C m as h (fun x h' => K nx ls (.float x :: r) h')))
def o_cD (m n rt nx : Nat) : jx_Op := fun C ls st h K => jx_tk n st [] (fun as r => jx_rc rt as h (jx_cD C m as h (fun x h' => K nx ls (.double x :: r) h')))
def o_cA (m n rt nx : Nat) : jx_Op := fun C ls st h K => jx_tk n st [] (fun as r => jx_rc rt as h (jx_cA C m as h (fun x h' => K nx ls (.ref x :: r) h')))
def o_cN (m n rt nx : Nat) : jx_Op := fun C ls st h K => jx_tk n st [] (fun as r => jx_rc rt as h (jx_cN C m as h (fun x h' => K nx ls (.ref x :: r) h') (fun h' => K nx ls (.null :: r) h')))
-- a call in reach of handlers: hs, a kind of exception and its place
def jx_hd (e : String) (hs : List (String × Nat)) (f : Nat → jx_R) (g : jx_R) : jx_R := match hs with
  | [] => g
  | (x, t) :: r => if e = x then f t else jx_hd e r f g
def jx_hI (C : jx_C) (m : Nat) (as : List Value) (h : jx_H) (hs : List (String × Nat)) (f : Int32 → jx_H → jx_R) (g : Nat → jx_H → jx_R) : jx_R := match C m as h with
  | some (.inl (some (.int x)), h') => f x h'
  | some (.inr e, h') => jx_hd e hs (fun t => g t h') none
  | _ => none
def jx_hL (C : jx_C) (m : Nat) (as : List Value) (h : jx_H) (hs : List (String × Nat)) (f : Int64 → jx_H → jx_R) (g : Nat → jx_H → jx_R) : jx_R := match C m as h with
  | some (.inl (some (.long x)), h') => f x h'
  | some (.inr e, h') => jx_hd e hs (fun t => g t h') none
  | _ => none
def jx_hF (C : jx_C) (m : Nat) (as : List Value) (h : jx_H) (hs : List (String × Nat)) (f : UInt32 → jx_H → jx_R) (g : Nat → jx_H → jx_R) : jx_R := match C m as h with
  | some (.inl (some (.float x)), h') => f x h'
  | some (.inr e, h') => jx_hd e hs (fun t => g t h') none
  | _ => none
def jx_hD (C : jx_C) (m : Nat) (as : List Value) (h : jx_H) (hs : List (String × Nat)) (f : UInt64 → jx_H → jx_R) (g : Nat → jx_H → jx_R) : jx_R := match C m as h with
  | some (.inl (some (.double x)), h') => f x h'
  | some (.inr e, h') => jx_hd e hs (fun t => g t h') none
  | _ => none
def o_hI (m n rt : Nat) (hs : List (String × Nat)) (nx : Nat) : jx_Op := fun C ls st h K => jx_tk n st [] (fun as r => jx_rc rt as h (jx_hI C m as h hs (fun x h' => K nx ls (.int x :: r) h') (fun t h' => K t ls [jx_j] h')))
def o_hL (m n rt : Nat) (hs : List (String × Nat)) (nx : Nat) : jx_Op := fun C ls st h K => jx_tk n st [] (fun as r => jx_rc rt as h (jx_hL C m as h hs (fun x h' => K nx ls (.long x :: r) h') (fun t h' => K t ls [jx_j] h')))
def o_hF (m n rt : Nat) (hs : List (String × Nat)) (nx : Nat) : jx_Op := fun C ls st h K => jx_tk n st [] (fun as r => jx_rc rt as h (jx_hF C m as h hs (fun x h' => K nx ls (.float x :: r) h') (fun t h' => K t ls [jx_j] h')))
def o_hD (m n rt : Nat) (hs : List (String × Nat)) (nx : Nat) : jx_Op := fun C ls st h K => jx_tk n st [] (fun as r => jx_rc rt as h (jx_hD C m as h hs (fun x h' => K nx ls (.double x :: r) h') (fun t h' => K t ls [jx_j] h')))
-- ends
def o_rV : jx_Op := fun _ _ st h _ => match st with | [] => some (.inl none, h) | _ => none
def o_rI : jx_Op := fun _ _ st h _ => match st with | [.int x] => some (.inl (some (.int x)), h) | _ => none
def o_rZ : jx_Op := fun _ _ st h _ => match st with | [.int x] => if x = 0 ∨ x = 1 then some (.inl (some (.int x)), h) else none | _ => none
def o_rC : jx_Op := fun _ _ st h _ => match st with | [.int x] => if 0 ≤ x ∧ x < 65536 then some (.inl (some (.int x)), h) else none | _ => none
def o_rB : jx_Op := fun _ _ st h _ => match st with | [.int x] => if 0 ≤ x ∧ x < 128 then some (.inl (some (.int x)), h) else none | _ => none
def o_rL : jx_Op := fun _ _ st h _ => match st with | [.long x] => some (.inl (some (.long x)), h) | _ => none
def o_rF : jx_Op := fun _ _ st h _ => match st with | [.float x] => some (.inl (some (.float x)), h) | _ => none
def o_rD : jx_Op := fun _ _ st h _ => match st with | [.double x] => some (.inl (some (.double x)), h) | _ => none
def o_rA : jx_Op := fun _ _ st h _ => match st with | [.ref x] => some (.inl (some (.ref x)), h) | [.null] => some (.inl (some .null), h) | _ => none
/-- 'throw new E("..")', all of it -/
def o_th (e : String) : jx_Op := fun _ _ st h _ => jx_ck st (some (.inr e, jx_thr h))
-- a run
def jx_lk (t : List (List jx_Op)) (pc : Nat) : jx_Op := match t[pc / 16]? with
  | some r => (match r[pc % 16]? with | some o => o | none => o_bad)
  | none => o_bad
def jx_ex (P : Nat → List (List jx_Op)) (ml : Nat → Nat) : Nat → Nat → Nat → List Value → List Value → jx_H → jx_R
  | 0, _, _, _, _, _ => none
  | n + 1, m, pc, ls, st, h => jx_lk (P m) pc (fun m' as h => bif Nat.ble (jx_sp as).length (ml m') then jx_ex P ml n m' 0 (jx_en (ml m') as) [] h else none) ls st h (fun pc ls st h => jx_ex P ml n m pc ls st h)
end JX
