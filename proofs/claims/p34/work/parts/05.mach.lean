/-! THE SMALL MACHINE: a function that runs the methods' instructions over a store of numbers, longs and references whose cells have numbers of their own (the place in the order of making). A world: (lo, n, cells, slots, I, L, R): numbers below lo or n are made; I a k: the int (a field or a place of an array) k of cell a; L: longs; R: references. -/
abbrev ZW : Type := Nat × Nat × Nat × Nat × (Nat → Nat → Int32) × (Nat → Nat → Int64) × (Nat → Nat → Option Nat)
abbrev ZR : Type := Option ((Option Value ⊕ Nat) × ZW)
abbrev ZL : Type := List (Nat × Value)
abbrev ZC : Type := Nat → List Value → ZW → ZR
abbrev ZX : Type := Nat × (Nat → Int32)
/-- how many marks, as the script tells -/
def z_mny (X : ZX) : Nat := 2 + ((if 3 < X.1 then X.2 3 else 0) &&& 2147483647).toInt.toNat % 9
theorem z_mny_le (X : ZX) : z_mny X ≤ 10 := by
  unfold z_mny
  omega
/-- how long a row is -/
abbrev z_kx (X : ZX) (a : Nat) : Nat := cond (Nat.beq a 57) (z_mny X) (z_kl0 a)
abbrev z_I (w : ZW) : Nat → Nat → Int32 := w.2.2.2.2.1
abbrev z_L (w : ZW) : Nat → Nat → Int64 := w.2.2.2.2.2.1
abbrev z_R (w : ZW) : Nat → Nat → Option Nat := w.2.2.2.2.2.2
abbrev z_up {α : Type} (f : Nat → Nat → α) (a k : Nat) (v : α) : Nat → Nat → α := fun b j => z_c (Nat.beq b a) (z_c (Nat.beq j k) v (f b j)) (f b j)
abbrev z_si (w : ZW) (a k : Nat) (v : Int32) : ZW := (w.1, w.2.1, w.2.2.1, w.2.2.2.1, z_up (z_I w) a k v, z_L w, z_R w)
abbrev z_sl (w : ZW) (a k : Nat) (v : Int64) : ZW := (w.1, w.2.1, w.2.2.1, w.2.2.2.1, z_I w, z_up (z_L w) a k v, z_R w)
abbrev z_sr (w : ZW) (a k : Nat) (v : Option Nat) : ZW := (w.1, w.2.1, w.2.2.1, w.2.2.2.1, z_I w, z_L w, z_up (z_R w) a k v)
/-- a cell more, of so many slots -/
abbrev z_mk (w : ZW) (k : Nat) : ZW := (w.1, w.2.1 + 1, w.2.2.1 + 1, w.2.2.2.1 + k, z_I w, z_L w, z_R w)
/-- an exception is made: it is no cell of the store -/
abbrev z_mx (w : ZW) : ZW := (w.1, w.2.1, w.2.2.1 + 1, w.2.2.2.1 + 6, z_I w, z_L w, z_R w)
abbrev z_al (w : ZW) (a : Nat) : Bool := Nat.blt a w.1 || Nat.blt a w.2.1
abbrev z_ok (w : ZW) (a c : Nat) : Bool := z_al w a && Nat.beq (z_kd a) c
/-- a long or a double -/
abbrev z_c2 (v : Value) : Bool := match v with
  | .long _ => true
  | .double _ => true
  | _ => false
/-- the words of these values are at most so many -/
def z_sm : List Value → Nat → Bool
  | [], _ => true
  | v :: r, n => z_c (z_c2 v) (z_c (Nat.ble 2 n) (z_sm r (n - 2)) false) (z_c (Nat.ble 1 n) (z_sm r (n - 1)) false)
theorem z_in_ex : ∃ f : Int32 → Nat → Bool, ∀ i n, f i n = (!decide (i < 0) && Nat.blt i.toNatClampNeg n) := ⟨_, fun _ _ => rfl⟩
/-- an index in range: a choice, so that nothing unfolds it by itself -/
noncomputable def z_in : Int32 → Nat → Bool := z_in_ex.choose
theorem z_in_eq (i : Int32) (n : Nat) : z_in i n = (!decide (i < 0) && Nat.blt i.toNatClampNeg n) := z_in_ex.choose_spec i n
theorem z_b1_ex : ∃ f : Int32 → Bool, ∀ x, f x = (x == 0 || x == 1) := ⟨_, fun _ => rfl⟩
/-- a number that is 0 or 1 -/
noncomputable def z_b1 : Int32 → Bool := z_b1_ex.choose
theorem z_b1_eq (x : Int32) : z_b1 x = (x == 0 || x == 1) := z_b1_ex.choose_spec x
theorem z_ck_ex : ∃ f : Int32 → Int32 → Int32 → Nat → Nat → Bool, ∀ sp dp m lx ly, f sp dp m lx ly = (!decide (sp < 0) && !decide (dp < 0) && !decide (m < 0) && Nat.ble (sp.toNatClampNeg + m.toNatClampNeg) lx && Nat.ble (dp.toNatClampNeg + m.toNatClampNeg) ly) := ⟨_, fun _ _ _ _ _ => rfl⟩
/-- a copy within its rows -/
noncomputable def z_ck : Int32 → Int32 → Int32 → Nat → Nat → Bool := z_ck_ex.choose
theorem z_ck_eq (sp dp m : Int32) (lx ly : Nat) : z_ck sp dp m lx ly = (!decide (sp < 0) && !decide (dp < 0) && !decide (m < 0) && Nat.ble (sp.toNatClampNeg + m.toNatClampNeg) lx && Nat.ble (dp.toNatClampNeg + m.toNatClampNeg) ly) := z_ck_ex.choose_spec sp dp m lx ly
abbrev z_gd (b : Bool) (x : ZR) : ZR := match b with
  | true => x
  | false => none
def z_lk : ZL → Nat → Option Value
  | [], _ => none
  | (i, v) :: l, k => z_c (Nat.beq i k) (some v) (z_lk l k)
def z_norm : List Nat → ZL → ZL
  | [], _ => []
  | i :: is, lo => match z_lk lo i with
    | some v => (i, v) :: z_norm is lo
    | none => z_norm is lo
def z_f1 (i : Nat) : ZL → ZL
  | [] => []
  | (j, v) :: l => z_c (Nat.beq j i) (z_f1 i l) (z_c (Nat.beq (j + 1) i && z_c2 v) (z_f1 i l) ((j, v) :: z_f1 i l))
def z_f2 (i : Nat) : ZL → ZL
  | [] => []
  | (j, v) :: l => z_c (Nat.beq j i) (z_f2 i l) (z_c (Nat.beq j (i + 1)) (z_f2 i l) (z_c (Nat.beq (j + 1) i && z_c2 v) (z_f2 i l) ((j, v) :: z_f2 i l)))
abbrev z_st1 (lo : ZL) (i : Nat) (v : Value) : ZL := (i, v) :: z_f1 i lo
abbrev z_st2 (lo : ZL) (i : Nat) (v : Value) : ZL := (i, v) :: z_f2 i lo
abbrev z_fv (w : ZW) (a k : Nat) (t : Nat) : Value := match t with
  | 3 => va_rf (z_R w a k)
  | 2 => .long (z_L w a k)
  | _ => .int (z_I w a k)
/-- a handler: from, to (pcs), which exception, the answer behind it -/
abbrev ZH : Type := Nat × Nat × Nat × Int × Nat
def z_hd : List ZH → Nat → Nat → Option Int
  | [], _, _ => none
  | (f, t, e, v, _) :: l, pc, E => cond (Nat.ble f pc && Nat.blt pc t && Nat.beq e E) (some v) (z_hd l pc E)
/-- nothing is thrown here -/
abbrev z_x (_ : List ZH) (_ : Nat) (_ : Nat) (_ : ZW) : ZR := none
abbrev z_b0 (hx : Nat → ZW → ZR) (r : ZR) (k : ZW → ZR) : ZR := match r with
  | some (.inl none, w) => k w
  | some (.inr E, w) => hx E w
  | _ => none
abbrev z_bi (hx : Nat → ZW → ZR) (r : ZR) (k : Int32 → ZW → ZR) : ZR := match r with
  | some (.inl (some (.int v)), w) => k v w
  | some (.inr E, w) => hx E w
  | _ => none
abbrev z_bl (hx : Nat → ZW → ZR) (r : ZR) (k : Int64 → ZW → ZR) : ZR := match r with
  | some (.inl (some (.long v)), w) => k v w
  | some (.inr E, w) => hx E w
  | _ => none
abbrev z_br (hx : Nat → ZW → ZR) (r : ZR) (k : Nat → ZW → ZR) : ZR := match r with
  | some (.inl (some (.ref v)), w) => k v w
  | some (.inr E, w) => hx E w
  | _ => none
def z_sw (x : Int32) (go : Nat → ZR) : List (Int × Nat) → Nat → ZR
  | [], d => go d
  | (v, t) :: l, d => if x = Int32.ofInt v then go t else z_sw x go l d
abbrev z_ii (st : List Value) (k : Int32 → Int32 → List Value → ZR) : ZR := match st with
  | .int y :: .int x :: r => k x y r
  | _ => none
abbrev z_ll (st : List Value) (k : Int64 → Int64 → List Value → ZR) : ZR := match st with
  | .long y :: .long x :: r => k x y r
  | _ => none
abbrev z_i1 (st : List Value) (k : Int32 → List Value → ZR) : ZR := match st with
  | .int x :: r => k x r
  | _ => none
abbrev z_l1 (st : List Value) (k : Int64 → List Value → ZR) : ZR := match st with
  | .long x :: r => k x r
  | _ => none
abbrev z_li (st : List Value) (k : Int64 → Int32 → List Value → ZR) : ZR := match st with
  | .int y :: .long x :: r => k x y r
  | _ => none
/-- a reference behind an index -/
abbrev z_ir (st : List Value) (k : Nat → Int32 → List Value → ZR) : ZR := match st with
  | .int i :: .ref a :: r => k a i r
  | _ => none
abbrev z_r1 (st : List Value) (k : Nat → List Value → ZR) : ZR := match st with
  | .ref a :: r => k a r
  | _ => none
abbrev z_iir (st : List Value) (k : Nat → Int32 → Int32 → List Value → ZR) : ZR := match st with
  | .int x :: .int i :: .ref a :: r => k a i x r
  | _ => none
abbrev z_lir (st : List Value) (k : Nat → Int32 → Int64 → List Value → ZR) : ZR := match st with
  | .long x :: .int i :: .ref a :: r => k a i x r
  | _ => none
abbrev z_rir (st : List Value) (k : Nat → Int32 → Nat → List Value → ZR) : ZR := match st with
  | .ref x :: .int i :: .ref a :: r => k a i x r
  | _ => none
abbrev z_dup (st : List Value) (k : List Value → ZR) : ZR := match st with
  | .int x :: r => k (.int x :: .int x :: r)
  | .ref x :: r => k (.ref x :: .ref x :: r)
  | _ => none
abbrev z_dup2 (st : List Value) (k : List Value → ZR) : ZR := match st with
  | .int x :: .ref y :: r => k (.int x :: .ref y :: .int x :: .ref y :: r)
  | .long x :: r => k (.long x :: .long x :: r)
  | _ => none
abbrev z_dx1 (st : List Value) (k : List Value → ZR) : ZR := match st with
  | .ref x :: .ref y :: r => k (.ref x :: .ref y :: .ref x :: r)
  | .int x :: .ref y :: r => k (.int x :: .ref y :: .int x :: r)
  | _ => none
abbrev z_pop (st : List Value) (k : List Value → ZR) : ZR := match st with
  | .int _ :: r => k r
  | .ref _ :: r => k r
  | _ => none
noncomputable abbrev z_put (w : ZW) (a k t : Nat) (v : Value) (kk : ZW → ZR) : ZR := match t, v with
  | 0, .int x => kk (z_si w a k x)
  | 1, .int x => z_gd (z_b1 x) (kk (z_si w a k x))
  | 2, .long x => kk (z_sl w a k x)
  | 3, .ref b => kk (z_sr w a k (some b))
  | 3, .null => kk (z_sr w a k none)
  | _, _ => none
/-- the first n of a row of values, the others -/
def z_take : Nat → List Value → List Value → (List Value → List Value → ZR) → ZR
  | 0, acc, r, k => k acc r
  | n + 1, acc, v :: r, k => z_take n (v :: acc) r k
  | _ + 1, _, [], _ => none
abbrev z_ret (hx : Nat → ZW → ZR) (d : Nat) (r : ZR) (k : List Value → ZW → ZR) : ZR := match d with
  | 0 => z_b0 hx r (fun w => k [] w)
  | 1 => z_bi hx r (fun v w => k [.int v] w)
  | 2 => z_bl hx r (fun v w => k [.long v] w)
  | _ => z_br hx r (fun v w => k [.ref v] w)
abbrev z_cpy (w : ZW) (a0 a1 sp dp n : Nat) : ZW := (w.1, w.2.1, w.2.2.1, w.2.2.2.1, (fun b => cond (Nat.beq b a1) (va_cpy (z_I w a0) (z_I w a1) sp dp n) (z_I w b)), z_L w, z_R w)
def z_mxi (x y : Int32) : Int32 := if x < y then y else x
def z_mni (x y : Int32) : Int32 := if y < x then y else x
def z_abi (x : Int32) : Int32 := if 0 ≤ x then x else 0 - x
def z_mxl (x y : Int64) : Int64 := if y < x then x else y
def z_mnl (x y : Int64) : Int64 := if y < x then y else x
def z_abl (x : Int64) : Int64 := if 0 < x then x else -x
noncomputable abbrev z_o_aconst_null (X : ZX) (call : ZC) (hs : List ZH) (go : Nat → ZL → List Value → ZW → ZR) (nx : ZL → List Value → ZW → ZR) (pc a b c d : Nat) (n : Int) (ts : List (Int × Nat)) (lo : ZL) (st : List Value) (w : ZW) : ZR := nx lo (.null :: st) w
noncomputable abbrev z_o_iconst (X : ZX) (call : ZC) (hs : List ZH) (go : Nat → ZL → List Value → ZW → ZR) (nx : ZL → List Value → ZW → ZR) (pc a b c d : Nat) (n : Int) (ts : List (Int × Nat)) (lo : ZL) (st : List Value) (w : ZW) : ZR := nx lo (.int (Int32.ofInt n) :: st) w
noncomputable abbrev z_o_newarrayD (X : ZX) (call : ZC) (hs : List ZH) (go : Nat → ZL → List Value → ZW → ZR) (nx : ZL → List Value → ZW → ZR) (pc a b c d : Nat) (n : Int) (ts : List (Int × Nat)) (lo : ZL) (st : List Value) (w : ZW) : ZR := z_i1 st (fun x r => if x = Int32.ofInt (z_mny X : Int) then z_gd (Nat.beq w.2.1 57) (nx lo (.ref w.2.1 :: r) (z_mk w (z_mny X))) else none)
noncomputable abbrev z_o_lconst (X : ZX) (call : ZC) (hs : List ZH) (go : Nat → ZL → List Value → ZW → ZR) (nx : ZL → List Value → ZW → ZR) (pc a b c d : Nat) (n : Int) (ts : List (Int × Nat)) (lo : ZL) (st : List Value) (w : ZW) : ZR := nx lo (.long (Int64.ofInt n) :: st) w
noncomputable abbrev z_o_iload (X : ZX) (call : ZC) (hs : List ZH) (go : Nat → ZL → List Value → ZW → ZR) (nx : ZL → List Value → ZW → ZR) (pc a b c d : Nat) (n : Int) (ts : List (Int × Nat)) (lo : ZL) (st : List Value) (w : ZW) : ZR := match z_lk lo a with | some (.int x) => nx lo (.int x :: st) w | _ => none
noncomputable abbrev z_o_lload (X : ZX) (call : ZC) (hs : List ZH) (go : Nat → ZL → List Value → ZW → ZR) (nx : ZL → List Value → ZW → ZR) (pc a b c d : Nat) (n : Int) (ts : List (Int × Nat)) (lo : ZL) (st : List Value) (w : ZW) : ZR := match z_lk lo a with | some (.long x) => nx lo (.long x :: st) w | _ => none
noncomputable abbrev z_o_aload (X : ZX) (call : ZC) (hs : List ZH) (go : Nat → ZL → List Value → ZW → ZR) (nx : ZL → List Value → ZW → ZR) (pc a b c d : Nat) (n : Int) (ts : List (Int × Nat)) (lo : ZL) (st : List Value) (w : ZW) : ZR := match z_lk lo a with | some (.ref x) => nx lo (.ref x :: st) w | _ => none
noncomputable abbrev z_o_istore (X : ZX) (call : ZC) (hs : List ZH) (go : Nat → ZL → List Value → ZW → ZR) (nx : ZL → List Value → ZW → ZR) (pc a b c d : Nat) (n : Int) (ts : List (Int × Nat)) (lo : ZL) (st : List Value) (w : ZW) : ZR := z_i1 st (fun x r => nx (z_st1 lo a (.int x)) r w)
noncomputable abbrev z_o_lstore (X : ZX) (call : ZC) (hs : List ZH) (go : Nat → ZL → List Value → ZW → ZR) (nx : ZL → List Value → ZW → ZR) (pc a b c d : Nat) (n : Int) (ts : List (Int × Nat)) (lo : ZL) (st : List Value) (w : ZW) : ZR := z_l1 st (fun x r => nx (z_st2 lo a (.long x)) r w)
noncomputable abbrev z_o_astore (X : ZX) (call : ZC) (hs : List ZH) (go : Nat → ZL → List Value → ZW → ZR) (nx : ZL → List Value → ZW → ZR) (pc a b c d : Nat) (n : Int) (ts : List (Int × Nat)) (lo : ZL) (st : List Value) (w : ZW) : ZR := z_r1 st (fun x r => nx (z_st1 lo a (.ref x)) r w)
noncomputable abbrev z_o_iinc (X : ZX) (call : ZC) (hs : List ZH) (go : Nat → ZL → List Value → ZW → ZR) (nx : ZL → List Value → ZW → ZR) (pc a b c d : Nat) (n : Int) (ts : List (Int × Nat)) (lo : ZL) (st : List Value) (w : ZW) : ZR := match z_lk lo a with | some (.int x) => nx (z_st1 lo a (.int (x + Int32.ofInt n))) st w | _ => none
noncomputable abbrev z_o_iadd (X : ZX) (call : ZC) (hs : List ZH) (go : Nat → ZL → List Value → ZW → ZR) (nx : ZL → List Value → ZW → ZR) (pc a b c d : Nat) (n : Int) (ts : List (Int × Nat)) (lo : ZL) (st : List Value) (w : ZW) : ZR := z_ii st (fun x y r => nx lo (.int (x + y) :: r) w)
noncomputable abbrev z_o_isub (X : ZX) (call : ZC) (hs : List ZH) (go : Nat → ZL → List Value → ZW → ZR) (nx : ZL → List Value → ZW → ZR) (pc a b c d : Nat) (n : Int) (ts : List (Int × Nat)) (lo : ZL) (st : List Value) (w : ZW) : ZR := z_ii st (fun x y r => nx lo (.int (x - y) :: r) w)
noncomputable abbrev z_o_imul (X : ZX) (call : ZC) (hs : List ZH) (go : Nat → ZL → List Value → ZW → ZR) (nx : ZL → List Value → ZW → ZR) (pc a b c d : Nat) (n : Int) (ts : List (Int × Nat)) (lo : ZL) (st : List Value) (w : ZW) : ZR := z_ii st (fun x y r => nx lo (.int (x * y) :: r) w)
noncomputable abbrev z_o_idiv (X : ZX) (call : ZC) (hs : List ZH) (go : Nat → ZL → List Value → ZW → ZR) (nx : ZL → List Value → ZW → ZR) (pc a b c d : Nat) (n : Int) (ts : List (Int × Nat)) (lo : ZL) (st : List Value) (w : ZW) : ZR := z_ii st (fun x y r => if y = 0 then none else nx lo (.int (x / y) :: r) w)
noncomputable abbrev z_o_irem (X : ZX) (call : ZC) (hs : List ZH) (go : Nat → ZL → List Value → ZW → ZR) (nx : ZL → List Value → ZW → ZR) (pc a b c d : Nat) (n : Int) (ts : List (Int × Nat)) (lo : ZL) (st : List Value) (w : ZW) : ZR := z_ii st (fun x y r => if y = 0 then none else nx lo (.int (x - x / y * y) :: r) w)
noncomputable abbrev z_o_ineg (X : ZX) (call : ZC) (hs : List ZH) (go : Nat → ZL → List Value → ZW → ZR) (nx : ZL → List Value → ZW → ZR) (pc a b c d : Nat) (n : Int) (ts : List (Int × Nat)) (lo : ZL) (st : List Value) (w : ZW) : ZR := z_i1 st (fun x r => nx lo (.int (-x) :: r) w)
noncomputable abbrev z_o_iand (X : ZX) (call : ZC) (hs : List ZH) (go : Nat → ZL → List Value → ZW → ZR) (nx : ZL → List Value → ZW → ZR) (pc a b c d : Nat) (n : Int) (ts : List (Int × Nat)) (lo : ZL) (st : List Value) (w : ZW) : ZR := z_ii st (fun x y r => nx lo (.int (x &&& y) :: r) w)
noncomputable abbrev z_o_ior (X : ZX) (call : ZC) (hs : List ZH) (go : Nat → ZL → List Value → ZW → ZR) (nx : ZL → List Value → ZW → ZR) (pc a b c d : Nat) (n : Int) (ts : List (Int × Nat)) (lo : ZL) (st : List Value) (w : ZW) : ZR := z_ii st (fun x y r => nx lo (.int (x ||| y) :: r) w)
noncomputable abbrev z_o_ixor (X : ZX) (call : ZC) (hs : List ZH) (go : Nat → ZL → List Value → ZW → ZR) (nx : ZL → List Value → ZW → ZR) (pc a b c d : Nat) (n : Int) (ts : List (Int × Nat)) (lo : ZL) (st : List Value) (w : ZW) : ZR := z_ii st (fun x y r => nx lo (.int (x ^^^ y) :: r) w)
noncomputable abbrev z_o_ishl (X : ZX) (call : ZC) (hs : List ZH) (go : Nat → ZL → List Value → ZW → ZR) (nx : ZL → List Value → ZW → ZR) (pc a b c d : Nat) (n : Int) (ts : List (Int × Nat)) (lo : ZL) (st : List Value) (w : ZW) : ZR := z_ii st (fun x y r => nx lo (.int (x <<< (y &&& 31)) :: r) w)
noncomputable abbrev z_o_ishr (X : ZX) (call : ZC) (hs : List ZH) (go : Nat → ZL → List Value → ZW → ZR) (nx : ZL → List Value → ZW → ZR) (pc a b c d : Nat) (n : Int) (ts : List (Int × Nat)) (lo : ZL) (st : List Value) (w : ZW) : ZR := z_ii st (fun x y r => nx lo (.int (x >>> (y &&& 31)) :: r) w)
noncomputable abbrev z_o_iushr (X : ZX) (call : ZC) (hs : List ZH) (go : Nat → ZL → List Value → ZW → ZR) (nx : ZL → List Value → ZW → ZR) (pc a b c d : Nat) (n : Int) (ts : List (Int × Nat)) (lo : ZL) (st : List Value) (w : ZW) : ZR := z_ii st (fun x y r => nx lo (.int ((x.toUInt32 >>> (y.toUInt32 &&& Int32.toUInt32 31)).toInt32) :: r) w)
noncomputable abbrev z_o_ladd (X : ZX) (call : ZC) (hs : List ZH) (go : Nat → ZL → List Value → ZW → ZR) (nx : ZL → List Value → ZW → ZR) (pc a b c d : Nat) (n : Int) (ts : List (Int × Nat)) (lo : ZL) (st : List Value) (w : ZW) : ZR := z_ll st (fun x y r => nx lo (.long (x + y) :: r) w)
noncomputable abbrev z_o_lsub (X : ZX) (call : ZC) (hs : List ZH) (go : Nat → ZL → List Value → ZW → ZR) (nx : ZL → List Value → ZW → ZR) (pc a b c d : Nat) (n : Int) (ts : List (Int × Nat)) (lo : ZL) (st : List Value) (w : ZW) : ZR := z_ll st (fun x y r => nx lo (.long (x - y) :: r) w)
noncomputable abbrev z_o_lmul (X : ZX) (call : ZC) (hs : List ZH) (go : Nat → ZL → List Value → ZW → ZR) (nx : ZL → List Value → ZW → ZR) (pc a b c d : Nat) (n : Int) (ts : List (Int × Nat)) (lo : ZL) (st : List Value) (w : ZW) : ZR := z_ll st (fun x y r => nx lo (.long (x * y) :: r) w)
noncomputable abbrev z_o_ldiv (X : ZX) (call : ZC) (hs : List ZH) (go : Nat → ZL → List Value → ZW → ZR) (nx : ZL → List Value → ZW → ZR) (pc a b c d : Nat) (n : Int) (ts : List (Int × Nat)) (lo : ZL) (st : List Value) (w : ZW) : ZR := z_ll st (fun x y r => if y = 0 then none else nx lo (.long (x / y) :: r) w)
noncomputable abbrev z_o_lneg (X : ZX) (call : ZC) (hs : List ZH) (go : Nat → ZL → List Value → ZW → ZR) (nx : ZL → List Value → ZW → ZR) (pc a b c d : Nat) (n : Int) (ts : List (Int × Nat)) (lo : ZL) (st : List Value) (w : ZW) : ZR := z_l1 st (fun x r => nx lo (.long (-x) :: r) w)
noncomputable abbrev z_o_land (X : ZX) (call : ZC) (hs : List ZH) (go : Nat → ZL → List Value → ZW → ZR) (nx : ZL → List Value → ZW → ZR) (pc a b c d : Nat) (n : Int) (ts : List (Int × Nat)) (lo : ZL) (st : List Value) (w : ZW) : ZR := z_ll st (fun x y r => nx lo (.long (x &&& y) :: r) w)
noncomputable abbrev z_o_lor (X : ZX) (call : ZC) (hs : List ZH) (go : Nat → ZL → List Value → ZW → ZR) (nx : ZL → List Value → ZW → ZR) (pc a b c d : Nat) (n : Int) (ts : List (Int × Nat)) (lo : ZL) (st : List Value) (w : ZW) : ZR := z_ll st (fun x y r => nx lo (.long (x ||| y) :: r) w)
noncomputable abbrev z_o_lshl (X : ZX) (call : ZC) (hs : List ZH) (go : Nat → ZL → List Value → ZW → ZR) (nx : ZL → List Value → ZW → ZR) (pc a b c d : Nat) (n : Int) (ts : List (Int × Nat)) (lo : ZL) (st : List Value) (w : ZW) : ZR := z_li st (fun x y r => nx lo (.long (x <<< (y.toInt64 &&& 63)) :: r) w)
noncomputable abbrev z_o_lshr (X : ZX) (call : ZC) (hs : List ZH) (go : Nat → ZL → List Value → ZW → ZR) (nx : ZL → List Value → ZW → ZR) (pc a b c d : Nat) (n : Int) (ts : List (Int × Nat)) (lo : ZL) (st : List Value) (w : ZW) : ZR := z_li st (fun x y r => nx lo (.long (x >>> (y.toInt64 &&& 63)) :: r) w)
noncomputable abbrev z_o_lushr (X : ZX) (call : ZC) (hs : List ZH) (go : Nat → ZL → List Value → ZW → ZR) (nx : ZL → List Value → ZW → ZR) (pc a b c d : Nat) (n : Int) (ts : List (Int × Nat)) (lo : ZL) (st : List Value) (w : ZW) : ZR := z_li st (fun x y r => nx lo (.long ((x.toUInt64 >>> (y.toInt64.toUInt64 &&& Int64.toUInt64 63)).toInt64) :: r) w)
noncomputable abbrev z_o_lcmp (X : ZX) (call : ZC) (hs : List ZH) (go : Nat → ZL → List Value → ZW → ZR) (nx : ZL → List Value → ZW → ZR) (pc a b c d : Nat) (n : Int) (ts : List (Int × Nat)) (lo : ZL) (st : List Value) (w : ZW) : ZR := z_ll st (fun x y r => nx lo (.int (lg_cmp x y) :: r) w)
noncomputable abbrev z_o_i2l (X : ZX) (call : ZC) (hs : List ZH) (go : Nat → ZL → List Value → ZW → ZR) (nx : ZL → List Value → ZW → ZR) (pc a b c d : Nat) (n : Int) (ts : List (Int × Nat)) (lo : ZL) (st : List Value) (w : ZW) : ZR := z_i1 st (fun x r => nx lo (.long x.toInt64 :: r) w)
noncomputable abbrev z_o_l2i (X : ZX) (call : ZC) (hs : List ZH) (go : Nat → ZL → List Value → ZW → ZR) (nx : ZL → List Value → ZW → ZR) (pc a b c d : Nat) (n : Int) (ts : List (Int × Nat)) (lo : ZL) (st : List Value) (w : ZW) : ZR := z_l1 st (fun x r => nx lo (.int x.toInt32 :: r) w)
noncomputable abbrev z_o_dup (X : ZX) (call : ZC) (hs : List ZH) (go : Nat → ZL → List Value → ZW → ZR) (nx : ZL → List Value → ZW → ZR) (pc a b c d : Nat) (n : Int) (ts : List (Int × Nat)) (lo : ZL) (st : List Value) (w : ZW) : ZR := z_dup st (fun r => nx lo r w)
noncomputable abbrev z_o_dup2 (X : ZX) (call : ZC) (hs : List ZH) (go : Nat → ZL → List Value → ZW → ZR) (nx : ZL → List Value → ZW → ZR) (pc a b c d : Nat) (n : Int) (ts : List (Int × Nat)) (lo : ZL) (st : List Value) (w : ZW) : ZR := z_dup2 st (fun r => nx lo r w)
noncomputable abbrev z_o_dup_x1 (X : ZX) (call : ZC) (hs : List ZH) (go : Nat → ZL → List Value → ZW → ZR) (nx : ZL → List Value → ZW → ZR) (pc a b c d : Nat) (n : Int) (ts : List (Int × Nat)) (lo : ZL) (st : List Value) (w : ZW) : ZR := z_dx1 st (fun r => nx lo r w)
noncomputable abbrev z_o_pop (X : ZX) (call : ZC) (hs : List ZH) (go : Nat → ZL → List Value → ZW → ZR) (nx : ZL → List Value → ZW → ZR) (pc a b c d : Nat) (n : Int) (ts : List (Int × Nat)) (lo : ZL) (st : List Value) (w : ZW) : ZR := z_pop st (fun r => nx lo r w)
noncomputable abbrev z_o_goto (X : ZX) (call : ZC) (hs : List ZH) (go : Nat → ZL → List Value → ZW → ZR) (nx : ZL → List Value → ZW → ZR) (pc a b c d : Nat) (n : Int) (ts : List (Int × Nat)) (lo : ZL) (st : List Value) (w : ZW) : ZR := go a lo st w
noncomputable abbrev z_o_ifeq (X : ZX) (call : ZC) (hs : List ZH) (go : Nat → ZL → List Value → ZW → ZR) (nx : ZL → List Value → ZW → ZR) (pc a b c d : Nat) (n : Int) (ts : List (Int × Nat)) (lo : ZL) (st : List Value) (w : ZW) : ZR := z_i1 st (fun x r => if x = 0 then go a lo r w else nx lo r w)
noncomputable abbrev z_o_ifne (X : ZX) (call : ZC) (hs : List ZH) (go : Nat → ZL → List Value → ZW → ZR) (nx : ZL → List Value → ZW → ZR) (pc a b c d : Nat) (n : Int) (ts : List (Int × Nat)) (lo : ZL) (st : List Value) (w : ZW) : ZR := z_i1 st (fun x r => if x = 0 then nx lo r w else go a lo r w)
noncomputable abbrev z_o_iflt (X : ZX) (call : ZC) (hs : List ZH) (go : Nat → ZL → List Value → ZW → ZR) (nx : ZL → List Value → ZW → ZR) (pc a b c d : Nat) (n : Int) (ts : List (Int × Nat)) (lo : ZL) (st : List Value) (w : ZW) : ZR := z_i1 st (fun x r => if x < 0 then go a lo r w else nx lo r w)
noncomputable abbrev z_o_ifge (X : ZX) (call : ZC) (hs : List ZH) (go : Nat → ZL → List Value → ZW → ZR) (nx : ZL → List Value → ZW → ZR) (pc a b c d : Nat) (n : Int) (ts : List (Int × Nat)) (lo : ZL) (st : List Value) (w : ZW) : ZR := z_i1 st (fun x r => if 0 ≤ x then go a lo r w else nx lo r w)
noncomputable abbrev z_o_ifgt (X : ZX) (call : ZC) (hs : List ZH) (go : Nat → ZL → List Value → ZW → ZR) (nx : ZL → List Value → ZW → ZR) (pc a b c d : Nat) (n : Int) (ts : List (Int × Nat)) (lo : ZL) (st : List Value) (w : ZW) : ZR := z_i1 st (fun x r => if 0 < x then go a lo r w else nx lo r w)
noncomputable abbrev z_o_ifle (X : ZX) (call : ZC) (hs : List ZH) (go : Nat → ZL → List Value → ZW → ZR) (nx : ZL → List Value → ZW → ZR) (pc a b c d : Nat) (n : Int) (ts : List (Int × Nat)) (lo : ZL) (st : List Value) (w : ZW) : ZR := z_i1 st (fun x r => if x ≤ 0 then go a lo r w else nx lo r w)
noncomputable abbrev z_o_icmpeq (X : ZX) (call : ZC) (hs : List ZH) (go : Nat → ZL → List Value → ZW → ZR) (nx : ZL → List Value → ZW → ZR) (pc a b c d : Nat) (n : Int) (ts : List (Int × Nat)) (lo : ZL) (st : List Value) (w : ZW) : ZR := z_ii st (fun x y r => if x = y then go a lo r w else nx lo r w)
noncomputable abbrev z_o_icmpne (X : ZX) (call : ZC) (hs : List ZH) (go : Nat → ZL → List Value → ZW → ZR) (nx : ZL → List Value → ZW → ZR) (pc a b c d : Nat) (n : Int) (ts : List (Int × Nat)) (lo : ZL) (st : List Value) (w : ZW) : ZR := z_ii st (fun x y r => if x = y then nx lo r w else go a lo r w)
noncomputable abbrev z_o_icmplt (X : ZX) (call : ZC) (hs : List ZH) (go : Nat → ZL → List Value → ZW → ZR) (nx : ZL → List Value → ZW → ZR) (pc a b c d : Nat) (n : Int) (ts : List (Int × Nat)) (lo : ZL) (st : List Value) (w : ZW) : ZR := z_ii st (fun x y r => if x < y then go a lo r w else nx lo r w)
noncomputable abbrev z_o_icmpge (X : ZX) (call : ZC) (hs : List ZH) (go : Nat → ZL → List Value → ZW → ZR) (nx : ZL → List Value → ZW → ZR) (pc a b c d : Nat) (n : Int) (ts : List (Int × Nat)) (lo : ZL) (st : List Value) (w : ZW) : ZR := z_ii st (fun x y r => if y ≤ x then go a lo r w else nx lo r w)
noncomputable abbrev z_o_icmpgt (X : ZX) (call : ZC) (hs : List ZH) (go : Nat → ZL → List Value → ZW → ZR) (nx : ZL → List Value → ZW → ZR) (pc a b c d : Nat) (n : Int) (ts : List (Int × Nat)) (lo : ZL) (st : List Value) (w : ZW) : ZR := z_ii st (fun x y r => if y < x then go a lo r w else nx lo r w)
noncomputable abbrev z_o_icmple (X : ZX) (call : ZC) (hs : List ZH) (go : Nat → ZL → List Value → ZW → ZR) (nx : ZL → List Value → ZW → ZR) (pc a b c d : Nat) (n : Int) (ts : List (Int × Nat)) (lo : ZL) (st : List Value) (w : ZW) : ZR := z_ii st (fun x y r => if x ≤ y then go a lo r w else nx lo r w)
noncomputable abbrev z_o_acmpeq (X : ZX) (call : ZC) (hs : List ZH) (go : Nat → ZL → List Value → ZW → ZR) (nx : ZL → List Value → ZW → ZR) (pc a b c d : Nat) (n : Int) (ts : List (Int × Nat)) (lo : ZL) (st : List Value) (w : ZW) : ZR := match st with | .ref y :: .ref x :: r => z_gd (Nat.beq x y) (go a lo r w) | _ => none
noncomputable abbrev z_o_switch (X : ZX) (call : ZC) (hs : List ZH) (go : Nat → ZL → List Value → ZW → ZR) (nx : ZL → List Value → ZW → ZR) (pc a b c d : Nat) (n : Int) (ts : List (Int × Nat)) (lo : ZL) (st : List Value) (w : ZW) : ZR := z_i1 st (fun x r => z_sw x (fun t => go t lo r w) ts a)
noncomputable abbrev z_o_getfield (X : ZX) (call : ZC) (hs : List ZH) (go : Nat → ZL → List Value → ZW → ZR) (nx : ZL → List Value → ZW → ZR) (pc a b c d : Nat) (n : Int) (ts : List (Int × Nat)) (lo : ZL) (st : List Value) (w : ZW) : ZR := z_r1 st (fun x r => z_gd (z_ok w x a) (nx lo (z_fv w x b c :: r) w))
noncomputable abbrev z_o_putfield (X : ZX) (call : ZC) (hs : List ZH) (go : Nat → ZL → List Value → ZW → ZR) (nx : ZL → List Value → ZW → ZR) (pc a b c d : Nat) (n : Int) (ts : List (Int × Nat)) (lo : ZL) (st : List Value) (w : ZW) : ZR := match st with | v :: .ref x :: r => z_gd (z_ok w x a) (z_put w x b c v (fun w => nx lo r w)) | _ => none
noncomputable abbrev z_o_getstatic (X : ZX) (call : ZC) (hs : List ZH) (go : Nat → ZL → List Value → ZW → ZR) (nx : ZL → List Value → ZW → ZR) (pc a b c d : Nat) (n : Int) (ts : List (Int × Nat)) (lo : ZL) (st : List Value) (w : ZW) : ZR := nx lo (.ref a :: st) w
noncomputable abbrev z_o_iaload (X : ZX) (call : ZC) (hs : List ZH) (go : Nat → ZL → List Value → ZW → ZR) (nx : ZL → List Value → ZW → ZR) (pc a b c d : Nat) (n : Int) (ts : List (Int × Nat)) (lo : ZL) (st : List Value) (w : ZW) : ZR := z_ir st (fun x i r => z_gd (z_ok w x 20) (z_gd (z_in i (z_kx X x)) (nx lo (.int (z_I w x i.toNatClampNeg) :: r) w)))
noncomputable abbrev z_o_baload (X : ZX) (call : ZC) (hs : List ZH) (go : Nat → ZL → List Value → ZW → ZR) (nx : ZL → List Value → ZW → ZR) (pc a b c d : Nat) (n : Int) (ts : List (Int × Nat)) (lo : ZL) (st : List Value) (w : ZW) : ZR := none
noncomputable abbrev z_o_laload (X : ZX) (call : ZC) (hs : List ZH) (go : Nat → ZL → List Value → ZW → ZR) (nx : ZL → List Value → ZW → ZR) (pc a b c d : Nat) (n : Int) (ts : List (Int × Nat)) (lo : ZL) (st : List Value) (w : ZW) : ZR := z_ir st (fun x i r => z_gd (z_ok w x 21) (z_gd (z_in i (z_kx X x)) (nx lo (.long (z_L w x i.toNatClampNeg) :: r) w)))
noncomputable abbrev z_o_aaload (X : ZX) (call : ZC) (hs : List ZH) (go : Nat → ZL → List Value → ZW → ZR) (nx : ZL → List Value → ZW → ZR) (pc a b c d : Nat) (n : Int) (ts : List (Int × Nat)) (lo : ZL) (st : List Value) (w : ZW) : ZR := z_ir st (fun x i r => z_gd (z_ok w x 23) (z_gd (z_in i (z_kx X x)) (nx lo (va_rf (z_R w x i.toNatClampNeg) :: r) w)))
noncomputable abbrev z_o_iastore (X : ZX) (call : ZC) (hs : List ZH) (go : Nat → ZL → List Value → ZW → ZR) (nx : ZL → List Value → ZW → ZR) (pc a b c d : Nat) (n : Int) (ts : List (Int × Nat)) (lo : ZL) (st : List Value) (w : ZW) : ZR := z_iir st (fun x i v r => z_gd (z_ok w x 20) (z_gd (z_in i (z_kx X x)) (nx lo r (z_si w x i.toNatClampNeg v))))
noncomputable abbrev z_o_bastore (X : ZX) (call : ZC) (hs : List ZH) (go : Nat → ZL → List Value → ZW → ZR) (nx : ZL → List Value → ZW → ZR) (pc a b c d : Nat) (n : Int) (ts : List (Int × Nat)) (lo : ZL) (st : List Value) (w : ZW) : ZR := none
noncomputable abbrev z_o_lastore (X : ZX) (call : ZC) (hs : List ZH) (go : Nat → ZL → List Value → ZW → ZR) (nx : ZL → List Value → ZW → ZR) (pc a b c d : Nat) (n : Int) (ts : List (Int × Nat)) (lo : ZL) (st : List Value) (w : ZW) : ZR := z_lir st (fun x i v r => z_gd (z_ok w x 21) (z_gd (z_in i (z_kx X x)) (nx lo r (z_sl w x i.toNatClampNeg v))))
noncomputable abbrev z_o_aastore (X : ZX) (call : ZC) (hs : List ZH) (go : Nat → ZL → List Value → ZW → ZR) (nx : ZL → List Value → ZW → ZR) (pc a b c d : Nat) (n : Int) (ts : List (Int × Nat)) (lo : ZL) (st : List Value) (w : ZW) : ZR := z_rir st (fun x i v r => z_gd (z_ok w x 23) (z_gd (z_in i (z_kx X x)) (z_gd (z_ok w v 10) (nx lo r (z_sr w x i.toNatClampNeg (some v))))))
noncomputable abbrev z_o_arraylength (X : ZX) (call : ZC) (hs : List ZH) (go : Nat → ZL → List Value → ZW → ZR) (nx : ZL → List Value → ZW → ZR) (pc a b c d : Nat) (n : Int) (ts : List (Int × Nat)) (lo : ZL) (st : List Value) (w : ZW) : ZR := z_r1 st (fun x r => z_c (Nat.beq x 1003) (nx lo (.int (Int32.ofNat 0) :: r) w) (z_gd (z_al w x && Nat.ble 20 (z_kd x) && Nat.ble (z_kd x) 23) (nx lo (.int (Int32.ofNat (z_kx X x)) :: r) w)))
noncomputable abbrev z_o_checkcast (X : ZX) (call : ZC) (hs : List ZH) (go : Nat → ZL → List Value → ZW → ZR) (nx : ZL → List Value → ZW → ZR) (pc a b c d : Nat) (n : Int) (ts : List (Int × Nat)) (lo : ZL) (st : List Value) (w : ZW) : ZR := z_r1 st (fun x r => z_gd (z_ok w x a) (nx lo (.ref x :: r) w))
noncomputable abbrev z_o_throw (X : ZX) (call : ZC) (hs : List ZH) (go : Nat → ZL → List Value → ZW → ZR) (nx : ZL → List Value → ZW → ZR) (pc a b c d : Nat) (n : Int) (ts : List (Int × Nat)) (lo : ZL) (st : List Value) (w : ZW) : ZR := none
noncomputable abbrev z_o_new (X : ZX) (call : ZC) (hs : List ZH) (go : Nat → ZL → List Value → ZW → ZR) (nx : ZL → List Value → ZW → ZR) (pc a b c d : Nat) (n : Int) (ts : List (Int × Nat)) (lo : ZL) (st : List Value) (w : ZW) : ZR := z_gd (Nat.beq (z_kd w.2.1) a && Nat.blt w.2.1 1000) (nx lo (.ref w.2.1 :: st) (z_mk w c))
noncomputable abbrev z_o_newarray (X : ZX) (call : ZC) (hs : List ZH) (go : Nat → ZL → List Value → ZW → ZR) (nx : ZL → List Value → ZW → ZR) (pc a b c d : Nat) (n : Int) (ts : List (Int × Nat)) (lo : ZL) (st : List Value) (w : ZW) : ZR := z_i1 st (fun x r => if x = Int32.ofInt n then z_gd (Nat.beq (z_kd w.2.1) a && Nat.blt w.2.1 1000 && Nat.beq (z_kx X w.2.1) b) (nx lo (.ref w.2.1 :: r) (z_mk w b)) else none)
noncomputable abbrev z_o_anewarray (X : ZX) (call : ZC) (hs : List ZH) (go : Nat → ZL → List Value → ZW → ZR) (nx : ZL → List Value → ZW → ZR) (pc a b c d : Nat) (n : Int) (ts : List (Int × Nat)) (lo : ZL) (st : List Value) (w : ZW) : ZR := z_i1 st (fun x r => if x = Int32.ofInt 10 then z_gd (Nat.beq (z_kd w.2.1) 23 && Nat.blt w.2.1 1000 && Nat.beq (z_kx X w.2.1) 10) (nx lo (.ref w.2.1 :: r) (z_mk w 10)) else none)
noncomputable abbrev z_o_arraycopy (X : ZX) (call : ZC) (hs : List ZH) (go : Nat → ZL → List Value → ZW → ZR) (nx : ZL → List Value → ZW → ZR) (pc a b c d : Nat) (n : Int) (ts : List (Int × Nat)) (lo : ZL) (st : List Value) (w : ZW) : ZR := none
noncomputable abbrev z_o_invokestatic (X : ZX) (call : ZC) (hs : List ZH) (go : Nat → ZL → List Value → ZW → ZR) (nx : ZL → List Value → ZW → ZR) (pc a b c d : Nat) (n : Int) (ts : List (Int × Nat)) (lo : ZL) (st : List Value) (w : ZW) : ZR := z_take c [] st (fun av r => z_gd (z_sm r 8) (z_ret (z_x hs pc) d (call a av w) (fun v w => nx lo (v ++ r) w)))
noncomputable abbrev z_o_invokevirtual (X : ZX) (call : ZC) (hs : List ZH) (go : Nat → ZL → List Value → ZW → ZR) (nx : ZL → List Value → ZW → ZR) (pc a b c d : Nat) (n : Int) (ts : List (Int × Nat)) (lo : ZL) (st : List Value) (w : ZW) : ZR := z_take c [] st (fun av r => z_r1 r (fun x r => z_gd (z_ok w x b) (z_gd (z_sm r 8) (z_ret (z_x hs pc) d (call a (.ref x :: av) w) (fun v w => nx lo (v ++ r) w)))))
noncomputable abbrev z_o_objinit (X : ZX) (call : ZC) (hs : List ZH) (go : Nat → ZL → List Value → ZW → ZR) (nx : ZL → List Value → ZW → ZR) (pc a b c d : Nat) (n : Int) (ts : List (Int × Nat)) (lo : ZL) (st : List Value) (w : ZW) : ZR := z_r1 st (fun _ r => z_gd (z_sm r 8) (nx lo r w))
noncomputable abbrev z_o_invokespecial (X : ZX) (call : ZC) (hs : List ZH) (go : Nat → ZL → List Value → ZW → ZR) (nx : ZL → List Value → ZW → ZR) (pc a b c d : Nat) (n : Int) (ts : List (Int × Nat)) (lo : ZL) (st : List Value) (w : ZW) : ZR := z_take c [] st (fun av r => z_r1 r (fun x r => z_gd (z_sm r 8) (z_ret (z_x hs pc) d (call a (.ref x :: av) w) (fun v w => nx lo (v ++ r) w))))
noncomputable abbrev z_o_ireturn (X : ZX) (call : ZC) (hs : List ZH) (go : Nat → ZL → List Value → ZW → ZR) (nx : ZL → List Value → ZW → ZR) (pc a b c d : Nat) (n : Int) (ts : List (Int × Nat)) (lo : ZL) (st : List Value) (w : ZW) : ZR := match st with | [.int x] => some (.inl (some (.int x)), w) | _ => none
noncomputable abbrev z_o_zreturn (X : ZX) (call : ZC) (hs : List ZH) (go : Nat → ZL → List Value → ZW → ZR) (nx : ZL → List Value → ZW → ZR) (pc a b c d : Nat) (n : Int) (ts : List (Int × Nat)) (lo : ZL) (st : List Value) (w : ZW) : ZR := match st with | [.int x] => z_gd (z_b1 x) (some (.inl (some (.int x)), w)) | _ => none
noncomputable abbrev z_o_lreturn (X : ZX) (call : ZC) (hs : List ZH) (go : Nat → ZL → List Value → ZW → ZR) (nx : ZL → List Value → ZW → ZR) (pc a b c d : Nat) (n : Int) (ts : List (Int × Nat)) (lo : ZL) (st : List Value) (w : ZW) : ZR := match st with | [.long x] => some (.inl (some (.long x)), w) | _ => none
noncomputable abbrev z_o_areturn (X : ZX) (call : ZC) (hs : List ZH) (go : Nat → ZL → List Value → ZW → ZR) (nx : ZL → List Value → ZW → ZR) (pc a b c d : Nat) (n : Int) (ts : List (Int × Nat)) (lo : ZL) (st : List Value) (w : ZW) : ZR := match st with | [.ref x] => some (.inl (some (.ref x)), w) | _ => none
noncomputable abbrev z_o_return_ (X : ZX) (call : ZC) (hs : List ZH) (go : Nat → ZL → List Value → ZW → ZR) (nx : ZL → List Value → ZW → ZR) (pc a b c d : Nat) (n : Int) (ts : List (Int × Nat)) (lo : ZL) (st : List Value) (w : ZW) : ZR := match st with | [] => some (.inl none, w) | _ => none
noncomputable abbrev z_o_strcall (X : ZX) (call : ZC) (hs : List ZH) (go : Nat → ZL → List Value → ZW → ZR) (nx : ZL → List Value → ZW → ZR) (pc a b c d : Nat) (n : Int) (ts : List (Int × Nat)) (lo : ZL) (st : List Value) (w : ZW) : ZR := none
noncomputable abbrev z_o_scriptload (X : ZX) (call : ZC) (hs : List ZH) (go : Nat → ZL → List Value → ZW → ZR) (nx : ZL → List Value → ZW → ZR) (pc a b c d : Nat) (n : Int) (ts : List (Int × Nat)) (lo : ZL) (st : List Value) (w : ZW) : ZR := z_ir st (fun x i r => z_gd (Nat.beq x 1001) (z_gd (z_in i X.1) (nx lo (.int (X.2 i.toNatClampNeg) :: r) w)))
noncomputable abbrev z_o_bendload (X : ZX) (call : ZC) (hs : List ZH) (go : Nat → ZL → List Value → ZW → ZR) (nx : ZL → List Value → ZW → ZR) (pc a b c d : Nat) (n : Int) (ts : List (Int × Nat)) (lo : ZL) (st : List Value) (w : ZW) : ZR := z_ir st (fun x i r => z_gd (Nat.beq x 1000) (z_gd (z_in i 5) (nx lo (.int (z_bend i.toNatClampNeg) :: r) w)))
noncomputable abbrev z_o_scriptlen (X : ZX) (call : ZC) (hs : List ZH) (go : Nat → ZL → List Value → ZW → ZR) (nx : ZL → List Value → ZW → ZR) (pc a b c d : Nat) (n : Int) (ts : List (Int × Nat)) (lo : ZL) (st : List Value) (w : ZW) : ZR := z_r1 st (fun x r => z_gd (Nat.beq x 1001) (nx lo (.int (Int32.ofNat X.1) :: r) w))
noncomputable abbrev z_o_mmaxi (X : ZX) (call : ZC) (hs : List ZH) (go : Nat → ZL → List Value → ZW → ZR) (nx : ZL → List Value → ZW → ZR) (pc a b c d : Nat) (n : Int) (ts : List (Int × Nat)) (lo : ZL) (st : List Value) (w : ZW) : ZR := z_ii st (fun x y r => z_gd (z_sm r 40) (nx lo (.int (z_mxi x y) :: r) w))
noncomputable abbrev z_o_mmini (X : ZX) (call : ZC) (hs : List ZH) (go : Nat → ZL → List Value → ZW → ZR) (nx : ZL → List Value → ZW → ZR) (pc a b c d : Nat) (n : Int) (ts : List (Int × Nat)) (lo : ZL) (st : List Value) (w : ZW) : ZR := z_ii st (fun x y r => z_gd (z_sm r 40) (nx lo (.int (z_mni x y) :: r) w))
noncomputable abbrev z_o_mabsi (X : ZX) (call : ZC) (hs : List ZH) (go : Nat → ZL → List Value → ZW → ZR) (nx : ZL → List Value → ZW → ZR) (pc a b c d : Nat) (n : Int) (ts : List (Int × Nat)) (lo : ZL) (st : List Value) (w : ZW) : ZR := z_i1 st (fun x r => z_gd (z_sm r 40) (nx lo (.int (z_abi x) :: r) w))
noncomputable abbrev z_o_mmaxl (X : ZX) (call : ZC) (hs : List ZH) (go : Nat → ZL → List Value → ZW → ZR) (nx : ZL → List Value → ZW → ZR) (pc a b c d : Nat) (n : Int) (ts : List (Int × Nat)) (lo : ZL) (st : List Value) (w : ZW) : ZR := z_ll st (fun x y r => z_gd (z_sm r 40) (nx lo (.long (z_mxl x y) :: r) w))
noncomputable abbrev z_o_mminl (X : ZX) (call : ZC) (hs : List ZH) (go : Nat → ZL → List Value → ZW → ZR) (nx : ZL → List Value → ZW → ZR) (pc a b c d : Nat) (n : Int) (ts : List (Int × Nat)) (lo : ZL) (st : List Value) (w : ZW) : ZR := z_ll st (fun x y r => z_gd (z_sm r 40) (nx lo (.long (z_mnl x y) :: r) w))
noncomputable abbrev z_o_mabsl (X : ZX) (call : ZC) (hs : List ZH) (go : Nat → ZL → List Value → ZW → ZR) (nx : ZL → List Value → ZW → ZR) (pc a b c d : Nat) (n : Int) (ts : List (Int × Nat)) (lo : ZL) (st : List Value) (w : ZW) : ZR := z_l1 st (fun x r => z_gd (z_sm r 40) (nx lo (.long (z_abl x) :: r) w))
noncomputable abbrev z_o_dead (X : ZX) (call : ZC) (hs : List ZH) (go : Nat → ZL → List Value → ZW → ZR) (nx : ZL → List Value → ZW → ZR) (pc a b c d : Nat) (n : Int) (ts : List (Int × Nat)) (lo : ZL) (st : List Value) (w : ZW) : ZR := none
noncomputable abbrev z_g_0 (X : ZX) (call : ZC) (hs : List ZH) (go : Nat → ZL → List Value → ZW → ZR) (nx : ZL → List Value → ZW → ZR) (pc o a b c d : Nat) (n : Int) (ts : List (Int × Nat)) (lo : ZL) (st : List Value) (w : ZW) : ZR := z_c (Nat.blt o 5) (z_c (Nat.blt o 2) (z_c (Nat.blt o 1) (z_o_aconst_null X call hs go nx pc a b c d n ts lo st w) (z_o_iconst X call hs go nx pc a b c d n ts lo st w)) (z_c (Nat.blt o 3) (z_o_newarrayD X call hs go nx pc a b c d n ts lo st w) (z_c (Nat.blt o 4) (z_o_lconst X call hs go nx pc a b c d n ts lo st w) (z_o_iload X call hs go nx pc a b c d n ts lo st w)))) (z_c (Nat.blt o 7) (z_c (Nat.blt o 6) (z_o_lload X call hs go nx pc a b c d n ts lo st w) (z_o_aload X call hs go nx pc a b c d n ts lo st w)) (z_c (Nat.blt o 8) (z_o_istore X call hs go nx pc a b c d n ts lo st w) (z_c (Nat.blt o 9) (z_o_lstore X call hs go nx pc a b c d n ts lo st w) (z_o_astore X call hs go nx pc a b c d n ts lo st w))))
noncomputable abbrev z_g_1 (X : ZX) (call : ZC) (hs : List ZH) (go : Nat → ZL → List Value → ZW → ZR) (nx : ZL → List Value → ZW → ZR) (pc o a b c d : Nat) (n : Int) (ts : List (Int × Nat)) (lo : ZL) (st : List Value) (w : ZW) : ZR := z_c (Nat.blt o 15) (z_c (Nat.blt o 12) (z_c (Nat.blt o 11) (z_o_iinc X call hs go nx pc a b c d n ts lo st w) (z_o_iadd X call hs go nx pc a b c d n ts lo st w)) (z_c (Nat.blt o 13) (z_o_isub X call hs go nx pc a b c d n ts lo st w) (z_c (Nat.blt o 14) (z_o_imul X call hs go nx pc a b c d n ts lo st w) (z_o_idiv X call hs go nx pc a b c d n ts lo st w)))) (z_c (Nat.blt o 17) (z_c (Nat.blt o 16) (z_o_irem X call hs go nx pc a b c d n ts lo st w) (z_o_ineg X call hs go nx pc a b c d n ts lo st w)) (z_c (Nat.blt o 18) (z_o_iand X call hs go nx pc a b c d n ts lo st w) (z_c (Nat.blt o 19) (z_o_ior X call hs go nx pc a b c d n ts lo st w) (z_o_ixor X call hs go nx pc a b c d n ts lo st w))))
noncomputable abbrev z_g_2 (X : ZX) (call : ZC) (hs : List ZH) (go : Nat → ZL → List Value → ZW → ZR) (nx : ZL → List Value → ZW → ZR) (pc o a b c d : Nat) (n : Int) (ts : List (Int × Nat)) (lo : ZL) (st : List Value) (w : ZW) : ZR := z_c (Nat.blt o 25) (z_c (Nat.blt o 22) (z_c (Nat.blt o 21) (z_o_ishl X call hs go nx pc a b c d n ts lo st w) (z_o_ishr X call hs go nx pc a b c d n ts lo st w)) (z_c (Nat.blt o 23) (z_o_iushr X call hs go nx pc a b c d n ts lo st w) (z_c (Nat.blt o 24) (z_o_ladd X call hs go nx pc a b c d n ts lo st w) (z_o_lsub X call hs go nx pc a b c d n ts lo st w)))) (z_c (Nat.blt o 27) (z_c (Nat.blt o 26) (z_o_lmul X call hs go nx pc a b c d n ts lo st w) (z_o_ldiv X call hs go nx pc a b c d n ts lo st w)) (z_c (Nat.blt o 28) (z_o_lneg X call hs go nx pc a b c d n ts lo st w) (z_c (Nat.blt o 29) (z_o_land X call hs go nx pc a b c d n ts lo st w) (z_o_lor X call hs go nx pc a b c d n ts lo st w))))
noncomputable abbrev z_g_3 (X : ZX) (call : ZC) (hs : List ZH) (go : Nat → ZL → List Value → ZW → ZR) (nx : ZL → List Value → ZW → ZR) (pc o a b c d : Nat) (n : Int) (ts : List (Int × Nat)) (lo : ZL) (st : List Value) (w : ZW) : ZR := z_c (Nat.blt o 35) (z_c (Nat.blt o 32) (z_c (Nat.blt o 31) (z_o_lshl X call hs go nx pc a b c d n ts lo st w) (z_o_lshr X call hs go nx pc a b c d n ts lo st w)) (z_c (Nat.blt o 33) (z_o_lushr X call hs go nx pc a b c d n ts lo st w) (z_c (Nat.blt o 34) (z_o_lcmp X call hs go nx pc a b c d n ts lo st w) (z_o_i2l X call hs go nx pc a b c d n ts lo st w)))) (z_c (Nat.blt o 37) (z_c (Nat.blt o 36) (z_o_l2i X call hs go nx pc a b c d n ts lo st w) (z_o_dup X call hs go nx pc a b c d n ts lo st w)) (z_c (Nat.blt o 38) (z_o_dup2 X call hs go nx pc a b c d n ts lo st w) (z_c (Nat.blt o 39) (z_o_dup_x1 X call hs go nx pc a b c d n ts lo st w) (z_o_pop X call hs go nx pc a b c d n ts lo st w))))
noncomputable abbrev z_g_4 (X : ZX) (call : ZC) (hs : List ZH) (go : Nat → ZL → List Value → ZW → ZR) (nx : ZL → List Value → ZW → ZR) (pc o a b c d : Nat) (n : Int) (ts : List (Int × Nat)) (lo : ZL) (st : List Value) (w : ZW) : ZR := z_c (Nat.blt o 45) (z_c (Nat.blt o 42) (z_c (Nat.blt o 41) (z_o_goto X call hs go nx pc a b c d n ts lo st w) (z_o_ifeq X call hs go nx pc a b c d n ts lo st w)) (z_c (Nat.blt o 43) (z_o_ifne X call hs go nx pc a b c d n ts lo st w) (z_c (Nat.blt o 44) (z_o_iflt X call hs go nx pc a b c d n ts lo st w) (z_o_ifge X call hs go nx pc a b c d n ts lo st w)))) (z_c (Nat.blt o 47) (z_c (Nat.blt o 46) (z_o_ifgt X call hs go nx pc a b c d n ts lo st w) (z_o_ifle X call hs go nx pc a b c d n ts lo st w)) (z_c (Nat.blt o 48) (z_o_icmpeq X call hs go nx pc a b c d n ts lo st w) (z_c (Nat.blt o 49) (z_o_icmpne X call hs go nx pc a b c d n ts lo st w) (z_o_icmplt X call hs go nx pc a b c d n ts lo st w))))
noncomputable abbrev z_g_5 (X : ZX) (call : ZC) (hs : List ZH) (go : Nat → ZL → List Value → ZW → ZR) (nx : ZL → List Value → ZW → ZR) (pc o a b c d : Nat) (n : Int) (ts : List (Int × Nat)) (lo : ZL) (st : List Value) (w : ZW) : ZR := z_c (Nat.blt o 55) (z_c (Nat.blt o 52) (z_c (Nat.blt o 51) (z_o_icmpge X call hs go nx pc a b c d n ts lo st w) (z_o_icmpgt X call hs go nx pc a b c d n ts lo st w)) (z_c (Nat.blt o 53) (z_o_icmple X call hs go nx pc a b c d n ts lo st w) (z_c (Nat.blt o 54) (z_o_acmpeq X call hs go nx pc a b c d n ts lo st w) (z_o_switch X call hs go nx pc a b c d n ts lo st w)))) (z_c (Nat.blt o 57) (z_c (Nat.blt o 56) (z_o_getfield X call hs go nx pc a b c d n ts lo st w) (z_o_putfield X call hs go nx pc a b c d n ts lo st w)) (z_c (Nat.blt o 58) (z_o_getstatic X call hs go nx pc a b c d n ts lo st w) (z_c (Nat.blt o 59) (z_o_iaload X call hs go nx pc a b c d n ts lo st w) (z_o_baload X call hs go nx pc a b c d n ts lo st w))))
noncomputable abbrev z_g_6 (X : ZX) (call : ZC) (hs : List ZH) (go : Nat → ZL → List Value → ZW → ZR) (nx : ZL → List Value → ZW → ZR) (pc o a b c d : Nat) (n : Int) (ts : List (Int × Nat)) (lo : ZL) (st : List Value) (w : ZW) : ZR := z_c (Nat.blt o 65) (z_c (Nat.blt o 62) (z_c (Nat.blt o 61) (z_o_laload X call hs go nx pc a b c d n ts lo st w) (z_o_aaload X call hs go nx pc a b c d n ts lo st w)) (z_c (Nat.blt o 63) (z_o_iastore X call hs go nx pc a b c d n ts lo st w) (z_c (Nat.blt o 64) (z_o_bastore X call hs go nx pc a b c d n ts lo st w) (z_o_lastore X call hs go nx pc a b c d n ts lo st w)))) (z_c (Nat.blt o 67) (z_c (Nat.blt o 66) (z_o_aastore X call hs go nx pc a b c d n ts lo st w) (z_o_arraylength X call hs go nx pc a b c d n ts lo st w)) (z_c (Nat.blt o 68) (z_o_checkcast X call hs go nx pc a b c d n ts lo st w) (z_c (Nat.blt o 69) (z_o_throw X call hs go nx pc a b c d n ts lo st w) (z_o_new X call hs go nx pc a b c d n ts lo st w))))
noncomputable abbrev z_g_7 (X : ZX) (call : ZC) (hs : List ZH) (go : Nat → ZL → List Value → ZW → ZR) (nx : ZL → List Value → ZW → ZR) (pc o a b c d : Nat) (n : Int) (ts : List (Int × Nat)) (lo : ZL) (st : List Value) (w : ZW) : ZR := z_c (Nat.blt o 75) (z_c (Nat.blt o 72) (z_c (Nat.blt o 71) (z_o_newarray X call hs go nx pc a b c d n ts lo st w) (z_o_anewarray X call hs go nx pc a b c d n ts lo st w)) (z_c (Nat.blt o 73) (z_o_arraycopy X call hs go nx pc a b c d n ts lo st w) (z_c (Nat.blt o 74) (z_o_invokestatic X call hs go nx pc a b c d n ts lo st w) (z_o_invokevirtual X call hs go nx pc a b c d n ts lo st w)))) (z_c (Nat.blt o 77) (z_c (Nat.blt o 76) (z_o_objinit X call hs go nx pc a b c d n ts lo st w) (z_o_invokespecial X call hs go nx pc a b c d n ts lo st w)) (z_c (Nat.blt o 78) (z_o_ireturn X call hs go nx pc a b c d n ts lo st w) (z_c (Nat.blt o 79) (z_o_zreturn X call hs go nx pc a b c d n ts lo st w) (z_o_lreturn X call hs go nx pc a b c d n ts lo st w))))
noncomputable abbrev z_g_8 (X : ZX) (call : ZC) (hs : List ZH) (go : Nat → ZL → List Value → ZW → ZR) (nx : ZL → List Value → ZW → ZR) (pc o a b c d : Nat) (n : Int) (ts : List (Int × Nat)) (lo : ZL) (st : List Value) (w : ZW) : ZR := z_c (Nat.blt o 85) (z_c (Nat.blt o 82) (z_c (Nat.blt o 81) (z_o_areturn X call hs go nx pc a b c d n ts lo st w) (z_o_return_ X call hs go nx pc a b c d n ts lo st w)) (z_c (Nat.blt o 83) (z_o_strcall X call hs go nx pc a b c d n ts lo st w) (z_c (Nat.blt o 84) (z_o_scriptload X call hs go nx pc a b c d n ts lo st w) (z_o_bendload X call hs go nx pc a b c d n ts lo st w)))) (z_c (Nat.blt o 87) (z_c (Nat.blt o 86) (z_o_scriptlen X call hs go nx pc a b c d n ts lo st w) (z_o_mmaxi X call hs go nx pc a b c d n ts lo st w)) (z_c (Nat.blt o 88) (z_o_mmini X call hs go nx pc a b c d n ts lo st w) (z_c (Nat.blt o 89) (z_o_mabsi X call hs go nx pc a b c d n ts lo st w) (z_o_mmaxl X call hs go nx pc a b c d n ts lo st w))))
noncomputable abbrev z_g_9 (X : ZX) (call : ZC) (hs : List ZH) (go : Nat → ZL → List Value → ZW → ZR) (nx : ZL → List Value → ZW → ZR) (pc o a b c d : Nat) (n : Int) (ts : List (Int × Nat)) (lo : ZL) (st : List Value) (w : ZW) : ZR := z_c (Nat.blt o 91) (z_o_mminl X call hs go nx pc a b c d n ts lo st w) (z_c (Nat.blt o 92) (z_o_mabsl X call hs go nx pc a b c d n ts lo st w) (z_o_dead X call hs go nx pc a b c d n ts lo st w))
noncomputable abbrev z_step (X : ZX) (call : ZC) (hs : List ZH) (go : Nat → ZL → List Value → ZW → ZR) (nx : ZL → List Value → ZW → ZR) (pc o a b c d : Nat) (n : Int) (ts : List (Int × Nat)) (lo : ZL) (st : List Value) (w : ZW) : ZR := z_c (Nat.blt o 50) (z_c (Nat.blt o 20) (z_c (Nat.blt o 10) (z_g_0 X call hs go nx pc o a b c d n ts lo st w) (z_g_1 X call hs go nx pc o a b c d n ts lo st w)) (z_c (Nat.blt o 30) (z_g_2 X call hs go nx pc o a b c d n ts lo st w) (z_c (Nat.blt o 40) (z_g_3 X call hs go nx pc o a b c d n ts lo st w) (z_g_4 X call hs go nx pc o a b c d n ts lo st w)))) (z_c (Nat.blt o 70) (z_c (Nat.blt o 60) (z_g_5 X call hs go nx pc o a b c d n ts lo st w) (z_g_6 X call hs go nx pc o a b c d n ts lo st w)) (z_c (Nat.blt o 80) (z_g_7 X call hs go nx pc o a b c d n ts lo st w) (z_c (Nat.blt o 90) (z_g_8 X call hs go nx pc o a b c d n ts lo st w) (z_g_9 X call hs go nx pc o a b c d n ts lo st w))))
def z_drop (t : Nat) : List ZE → List ZE
  | [] => []
  | e :: es => z_c (Nat.beq e.1 t) (e :: es) (z_drop t es)
/-- the marks that belong to what z_drop leaves -/
def z_drof (t : Nat) : List ZE → List Bool → List Bool
  | e :: es, f :: fs => z_c (Nat.beq e.1 t) (f :: fs) (z_drof t es fs)
  | _, _ => []
def z_ct : List (Nat × List Nat) → Nat → Option (List Nat)
  | [], _ => none
  | (p, l) :: r, t => z_c (Nat.beq p t) (some l) (z_ct r t)
/-- a run to the next cuts: each instruction with its mark, whether the next one is a cut -/
noncomputable def z_exec (X : ZX) (call : ZC) (hs : List ZH) (cuts : List (Nat × List Nat)) (jmp : Nat → ZL → List Value → ZW → ZR) : Nat → List ZE → List Bool → ZL → List Value → ZW → ZR
  | m + 1, (pc, o, len, (a, b, c, d, n), ts) :: es, f :: fs, lo, st, w => z_step X call hs
      (fun t lo st w => match z_ct cuts t with | some l => jmp t (z_norm l lo) st w | none => z_exec X call hs cuts jmp m (z_drop t es) (z_drof t es fs) lo st w)
      (fun lo st w => match f with
        | true => (match z_ct cuts (pc + len) with | some l => jmp (pc + len) (z_norm l lo) st w | none => none)
        | false => z_exec X call hs cuts jmp m es fs lo st w)
      pc o a b c d n ts lo st w
  | _, _, _, _, _, _ => none
/-! runs: a method from a pc on, with so many passages of its cuts; a call, with so much depth -/
noncomputable def z_loop (X : ZX) (cf : Nat → List (Nat × List Nat)) (ff : Nat → List Bool) (call : ZC) (y : Nat) : Nat → Nat → ZL → List Value → ZW → ZR
  | 0, _, _, _, _ => none
  | n + 1, pc, lo, st, w => z_exec X call (z_mh y) (cf y) (z_loop X cf ff call y n) 4000 (z_drop pc (z_me y)) (z_drof pc (z_me y) (ff y)) lo st w
def z_fuel : Nat := 100000000
noncomputable def z_run (X : ZX) (cf : Nat → List (Nat × List Nat)) (ff : Nat → List Bool) : Nat → ZC
  | 0, _, _, _ => none
  | d + 1, y, av, w => z_c (Nat.ble 56 y) none (z_gd (z_sm av (z_ml y)) (z_loop X cf ff (z_run X cf ff d) y z_fuel 0 (lv_args 0 av) [] w))
