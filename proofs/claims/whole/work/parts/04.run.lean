/-! runs: a method from a pc on, with so many passages of its cuts; a call, with so much depth -/
noncomputable def z_loop (X : ZX) (call : ZC) (y : Nat) : Nat → Nat → ZL → List Value → ZW → ZR
  | 0, _, _, _, _ => none
  | n + 1, pc, lo, st, w => z_exec X call (z_mh y) (z_mc y) (z_loop X call y n) 4000 (z_drop pc (z_me y)) lo st w
/-- String.length and String.charAt of the one text -/
noncomputable def z_bt (y : Nat) (av : List Value) (w : ZW) : ZR := match av with
  | [.ref a] => z_gd (Nat.beq y 900 && Nat.beq a 1002) (some (.inl (some (.int (Int32.ofNat z_txl))), w))
  | [.ref a, .int i] => z_gd (Nat.beq y 901 && Nat.beq a 1002 && z_in i z_txl) (some (.inl (some (.int (z_ch i.toNatClampNeg))), w))
  | _ => none
def z_fuel : Nat := 100000000
noncomputable def z_run (X : ZX) : Nat → ZC
  | 0, _, _, _ => none
  | d + 1, y, av, w => cond (Nat.ble 900 y) (z_bt y av w) (z_loop X (z_run X d) y z_fuel 0 (lv_args 0 av) [] w)
