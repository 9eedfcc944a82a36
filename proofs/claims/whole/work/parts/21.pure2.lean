/-! PURE, 2: the functions are what the methods do -/
theorem z_pc {b : Bool} {x z : Option Value} {v : Value} (h : z_c b x z = some v) : (b = true ∧ x = some v) ∨ (b = false ∧ z = some v) := by
  cases b
  · exact Or.inr ⟨rfl, h⟩
  · exact Or.inl ⟨rfl, h⟩
theorem z_n3 : (Int32.ofInt 3 = 0) = False := by decide
theorem z_b1_0 : z_b1 (Int32.ofInt 0) = true := by rw [z_b1_eq]; decide
theorem z_b1_1 : z_b1 (Int32.ofInt 1) = true := by rw [z_b1_eq]; decide
theorem z_b1_wi (a b c : Int32) : z_b1 (z_p_X_within a b c) = true := by
  unfold z_p_X_within
  repeat' split
  · exact z_b1_0
  · exact z_b1_0
  · exact z_b1_1
set_option maxRecDepth 100000 in
theorem z_pb_Integer_bitCount (X : ZX) (call : ZC) (N : Nat) (w : ZW) (a0 : Int32) : z_loop X z_cf z_ff call 11 (N + 1) 0 [(0, .int a0)] [] w = some (.inl (some (.int ((((((((a0 - ((((a0).toUInt32 >>> (((Int32.ofInt 1)).toUInt32 &&& Int32.toUInt32 31)).toInt32) &&& (Int32.ofInt 1431655765))) &&& (Int32.ofInt 858993459)) + (((((a0 - ((((a0).toUInt32 >>> (((Int32.ofInt 1)).toUInt32 &&& Int32.toUInt32 31)).toInt32) &&& (Int32.ofInt 1431655765)))).toUInt32 >>> (((Int32.ofInt 2)).toUInt32 &&& Int32.toUInt32 31)).toInt32) &&& (Int32.ofInt 858993459))) + ((((((a0 - ((((a0).toUInt32 >>> (((Int32.ofInt 1)).toUInt32 &&& Int32.toUInt32 31)).toInt32) &&& (Int32.ofInt 1431655765))) &&& (Int32.ofInt 858993459)) + (((((a0 - ((((a0).toUInt32 >>> (((Int32.ofInt 1)).toUInt32 &&& Int32.toUInt32 31)).toInt32) &&& (Int32.ofInt 1431655765)))).toUInt32 >>> (((Int32.ofInt 2)).toUInt32 &&& Int32.toUInt32 31)).toInt32) &&& (Int32.ofInt 858993459)))).toUInt32 >>> (((Int32.ofInt 4)).toUInt32 &&& Int32.toUInt32 31)).toInt32)) &&& (Int32.ofInt 252645135)) + ((((((((a0 - ((((a0).toUInt32 >>> (((Int32.ofInt 1)).toUInt32 &&& Int32.toUInt32 31)).toInt32) &&& (Int32.ofInt 1431655765))) &&& (Int32.ofInt 858993459)) + (((((a0 - ((((a0).toUInt32 >>> (((Int32.ofInt 1)).toUInt32 &&& Int32.toUInt32 31)).toInt32) &&& (Int32.ofInt 1431655765)))).toUInt32 >>> (((Int32.ofInt 2)).toUInt32 &&& Int32.toUInt32 31)).toInt32) &&& (Int32.ofInt 858993459))) + ((((((a0 - ((((a0).toUInt32 >>> (((Int32.ofInt 1)).toUInt32 &&& Int32.toUInt32 31)).toInt32) &&& (Int32.ofInt 1431655765))) &&& (Int32.ofInt 858993459)) + (((((a0 - ((((a0).toUInt32 >>> (((Int32.ofInt 1)).toUInt32 &&& Int32.toUInt32 31)).toInt32) &&& (Int32.ofInt 1431655765)))).toUInt32 >>> (((Int32.ofInt 2)).toUInt32 &&& Int32.toUInt32 31)).toInt32) &&& (Int32.ofInt 858993459)))).toUInt32 >>> (((Int32.ofInt 4)).toUInt32 &&& Int32.toUInt32 31)).toInt32)) &&& (Int32.ofInt 252645135))).toUInt32 >>> (((Int32.ofInt 8)).toUInt32 &&& Int32.toUInt32 31)).toInt32)) + (((((((((a0 - ((((a0).toUInt32 >>> (((Int32.ofInt 1)).toUInt32 &&& Int32.toUInt32 31)).toInt32) &&& (Int32.ofInt 1431655765))) &&& (Int32.ofInt 858993459)) + (((((a0 - ((((a0).toUInt32 >>> (((Int32.ofInt 1)).toUInt32 &&& Int32.toUInt32 31)).toInt32) &&& (Int32.ofInt 1431655765)))).toUInt32 >>> (((Int32.ofInt 2)).toUInt32 &&& Int32.toUInt32 31)).toInt32) &&& (Int32.ofInt 858993459))) + ((((((a0 - ((((a0).toUInt32 >>> (((Int32.ofInt 1)).toUInt32 &&& Int32.toUInt32 31)).toInt32) &&& (Int32.ofInt 1431655765))) &&& (Int32.ofInt 858993459)) + (((((a0 - ((((a0).toUInt32 >>> (((Int32.ofInt 1)).toUInt32 &&& Int32.toUInt32 31)).toInt32) &&& (Int32.ofInt 1431655765)))).toUInt32 >>> (((Int32.ofInt 2)).toUInt32 &&& Int32.toUInt32 31)).toInt32) &&& (Int32.ofInt 858993459)))).toUInt32 >>> (((Int32.ofInt 4)).toUInt32 &&& Int32.toUInt32 31)).toInt32)) &&& (Int32.ofInt 252645135)) + ((((((((a0 - ((((a0).toUInt32 >>> (((Int32.ofInt 1)).toUInt32 &&& Int32.toUInt32 31)).toInt32) &&& (Int32.ofInt 1431655765))) &&& (Int32.ofInt 858993459)) + (((((a0 - ((((a0).toUInt32 >>> (((Int32.ofInt 1)).toUInt32 &&& Int32.toUInt32 31)).toInt32) &&& (Int32.ofInt 1431655765)))).toUInt32 >>> (((Int32.ofInt 2)).toUInt32 &&& Int32.toUInt32 31)).toInt32) &&& (Int32.ofInt 858993459))) + ((((((a0 - ((((a0).toUInt32 >>> (((Int32.ofInt 1)).toUInt32 &&& Int32.toUInt32 31)).toInt32) &&& (Int32.ofInt 1431655765))) &&& (Int32.ofInt 858993459)) + (((((a0 - ((((a0).toUInt32 >>> (((Int32.ofInt 1)).toUInt32 &&& Int32.toUInt32 31)).toInt32) &&& (Int32.ofInt 1431655765)))).toUInt32 >>> (((Int32.ofInt 2)).toUInt32 &&& Int32.toUInt32 31)).toInt32) &&& (Int32.ofInt 858993459)))).toUInt32 >>> (((Int32.ofInt 4)).toUInt32 &&& Int32.toUInt32 31)).toInt32)) &&& (Int32.ofInt 252645135))).toUInt32 >>> (((Int32.ofInt 8)).toUInt32 &&& Int32.toUInt32 31)).toInt32))).toUInt32 >>> (((Int32.ofInt 16)).toUInt32 &&& Int32.toUInt32 31)).toInt32)) &&& (Int32.ofInt 63)))), w) := rfl
theorem z_pp_Integer_bitCount (X : ZX) (d : Nat) (w : ZW) (a0 : Int32) : z_run X z_cf z_ff (d + 1) 11 [.int a0] w = some (.inl (some (.int (z_p_Integer_bitCount a0))), w) := by
  show z_loop X z_cf z_ff (z_run X z_cf z_ff (d + 0)) 11 (99999999 + 1) 0 [(0, .int a0)] [] w = _
  rw [z_pb_Integer_bitCount]
  unfold z_p_Integer_bitCount
  try simp only [z_n3, if_false]
  first
    | done
    | rfl
    | ((repeat' split) <;> rfl)
    | (simp only [z_b1_wi, z_b1_0, z_b1_1]; done)
    | ((repeat' split) <;> first | rfl | (simp only [z_b1_wi, z_b1_0, z_b1_1]; done))
set_option maxRecDepth 100000 in
theorem z_pb_Orders_indexOf (X : ZX) (call : ZC) (N : Nat) (w : ZW) (a0 : Int32) (a1 : Int32) : z_loop X z_cf z_ff call 41 (N + 1) 0 [(0, .int a0), (1, .int a1)] [] w = some (.inl (some (.int ((a0 * (Int32.ofInt 9)) + a1))), w) := rfl
theorem z_pp_Orders_indexOf (X : ZX) (d : Nat) (w : ZW) (a0 : Int32) (a1 : Int32) : z_run X z_cf z_ff (d + 1) 41 [.int a0, .int a1] w = some (.inl (some (.int (z_p_Orders_indexOf a0 a1))), w) := by
  show z_loop X z_cf z_ff (z_run X z_cf z_ff (d + 0)) 41 (99999999 + 1) 0 [(0, .int a0), (1, .int a1)] [] w = _
  rw [z_pb_Orders_indexOf]
  unfold z_p_Orders_indexOf
  try simp only [z_n3, if_false]
  first
    | done
    | rfl
    | ((repeat' split) <;> rfl)
    | (simp only [z_b1_wi, z_b1_0, z_b1_1]; done)
    | ((repeat' split) <;> first | rfl | (simp only [z_b1_wi, z_b1_0, z_b1_1]; done))
set_option maxRecDepth 100000 in
theorem z_pb_Orders_orderShift (X : ZX) (call : ZC) (N : Nat) (w : ZW) (a0 : Int32) : z_loop X z_cf z_ff call 43 (N + 1) 0 [(0, .int a0)] [] w = some (.inl (some (.int ((Int32.ofInt 8) + ((Int32.ofInt 4) * ((Int32.ofInt 8) - a0))))), w) := rfl
theorem z_pp_Orders_orderShift (X : ZX) (d : Nat) (w : ZW) (a0 : Int32) : z_run X z_cf z_ff (d + 1) 43 [.int a0] w = some (.inl (some (.int (z_p_Orders_orderShift a0))), w) := by
  show z_loop X z_cf z_ff (z_run X z_cf z_ff (d + 0)) 43 (99999999 + 1) 0 [(0, .int a0)] [] w = _
  rw [z_pb_Orders_orderShift]
  unfold z_p_Orders_orderShift
  try simp only [z_n3, if_false]
  first
    | done
    | rfl
    | ((repeat' split) <;> rfl)
    | (simp only [z_b1_wi, z_b1_0, z_b1_1]; done)
    | ((repeat' split) <;> first | rfl | (simp only [z_b1_wi, z_b1_0, z_b1_1]; done))
set_option maxRecDepth 100000 in
theorem z_pb_Orders_changeShift (X : ZX) (call : ZC) (N : Nat) (w : ZW) (a0 : Int32) : z_loop X z_cf z_ff call 47 (N + 1) 0 [(0, .int a0)] [] w = some (.inl (some (.int ((Int32.ofInt 8) - a0))), w) := rfl
theorem z_pp_Orders_changeShift (X : ZX) (d : Nat) (w : ZW) (a0 : Int32) : z_run X z_cf z_ff (d + 1) 47 [.int a0] w = some (.inl (some (.int (z_p_Orders_changeShift a0))), w) := by
  show z_loop X z_cf z_ff (z_run X z_cf z_ff (d + 0)) 47 (99999999 + 1) 0 [(0, .int a0)] [] w = _
  rw [z_pb_Orders_changeShift]
  unfold z_p_Orders_changeShift
  try simp only [z_n3, if_false]
  first
    | done
    | rfl
    | ((repeat' split) <;> rfl)
    | (simp only [z_b1_wi, z_b1_0, z_b1_1]; done)
    | ((repeat' split) <;> first | rfl | (simp only [z_b1_wi, z_b1_0, z_b1_1]; done))
set_option maxRecDepth 100000 in
theorem z_pb_X_within (X : ZX) (call : ZC) (N : Nat) (w : ZW) (a0 : Int32) (a1 : Int32) (a2 : Int32) : z_loop X z_cf z_ff call 121 (N + 1) 0 [(0, .int a0), (1, .int a1), (2, .int a2)] [] w = if a0 < a1 then z_gd (z_b1 (Int32.ofInt 0)) (some (.inl (some (.int (Int32.ofInt 0))), w)) else if a2 < a0 then z_gd (z_b1 (Int32.ofInt 0)) (some (.inl (some (.int (Int32.ofInt 0))), w)) else z_gd (z_b1 (Int32.ofInt 1)) (some (.inl (some (.int (Int32.ofInt 1))), w)) := rfl
theorem z_pp_X_within (X : ZX) (d : Nat) (w : ZW) (a0 : Int32) (a1 : Int32) (a2 : Int32) : z_run X z_cf z_ff (d + 1) 121 [.int a0, .int a1, .int a2] w = some (.inl (some (.int (z_p_X_within a0 a1 a2))), w) := by
  show z_loop X z_cf z_ff (z_run X z_cf z_ff (d + 0)) 121 (99999999 + 1) 0 [(0, .int a0), (1, .int a1), (2, .int a2)] [] w = _
  rw [z_pb_X_within]
  unfold z_p_X_within
  try simp only [z_n3, if_false]
  first
    | done
    | rfl
    | ((repeat' split) <;> rfl)
    | (simp only [z_b1_wi, z_b1_0, z_b1_1]; done)
    | ((repeat' split) <;> first | rfl | (simp only [z_b1_wi, z_b1_0, z_b1_1]; done))
set_option maxRecDepth 100000 in
theorem z_pb_Token_isWord (X : ZX) (call : ZC) (N : Nat) (w : ZW) (a0 : Int32) : z_loop X z_cf z_ff call 69 (N + 1) 0 [(0, .int a0)] [] w = if a0 < (Int32.ofInt 100) then z_gd (z_b1 (Int32.ofInt 0)) (some (.inl (some (.int (Int32.ofInt 0))), w)) else z_gd (z_b1 (Int32.ofInt 1)) (some (.inl (some (.int (Int32.ofInt 1))), w)) := rfl
theorem z_pp_Token_isWord (X : ZX) (d : Nat) (w : ZW) (a0 : Int32) : z_run X z_cf z_ff (d + 1) 69 [.int a0] w = some (.inl (some (.int (z_p_Token_isWord a0))), w) := by
  show z_loop X z_cf z_ff (z_run X z_cf z_ff (d + 0)) 69 (99999999 + 1) 0 [(0, .int a0)] [] w = _
  rw [z_pb_Token_isWord]
  unfold z_p_Token_isWord
  try simp only [z_n3, if_false]
  first
    | done
    | rfl
    | ((repeat' split) <;> rfl)
    | (simp only [z_b1_wi, z_b1_0, z_b1_1]; done)
    | ((repeat' split) <;> first | rfl | (simp only [z_b1_wi, z_b1_0, z_b1_1]; done))
set_option maxRecDepth 100000 in
theorem z_pb_Planner_pressIndex (X : ZX) (call : ZC) (N : Nat) (w : ZW) (a0 : Int32) (a1 : Int32) (a2 : Int32) : z_loop X z_cf z_ff call 105 (N + 1) 0 [(0, .int a0), (1, .int a1), (2, .int a2)] [] w = some (.inl (some (.int ((((a0 * (Int32.ofInt 13)) + a1) * (Int32.ofInt 13)) + a2))), w) := rfl
theorem z_pp_Planner_pressIndex (X : ZX) (d : Nat) (w : ZW) (a0 : Int32) (a1 : Int32) (a2 : Int32) : z_run X z_cf z_ff (d + 1) 105 [.int a0, .int a1, .int a2] w = some (.inl (some (.int (z_p_Planner_pressIndex a0 a1 a2))), w) := by
  show z_loop X z_cf z_ff (z_run X z_cf z_ff (d + 0)) 105 (99999999 + 1) 0 [(0, .int a0), (1, .int a1), (2, .int a2)] [] w = _
  rw [z_pb_Planner_pressIndex]
  unfold z_p_Planner_pressIndex
  try simp only [z_n3, if_false]
  first
    | done
    | rfl
    | ((repeat' split) <;> rfl)
    | (simp only [z_b1_wi, z_b1_0, z_b1_1]; done)
    | ((repeat' split) <;> first | rfl | (simp only [z_b1_wi, z_b1_0, z_b1_1]; done))
set_option maxRecDepth 100000 in
theorem z_pb_X_placeOf (X : ZX) (call : ZC) (N : Nat) (w : ZW) (a0 : Int32) (a1 : Int64) (a2 : Int64) (a3 : Int64) (a4 : Int64) : z_loop X z_cf z_ff call 153 (N + 1) 0 [(0, .int a0), (1, .long a1), (3, .long a2), (5, .long a3), (7, .long a4)] [] w = if (Int32.ofInt 3) ≤ a0 then if (Int32.ofInt 6) ≤ a0 then if (Int32.ofInt 9) ≤ a0 then if (Int32.ofInt 3) = 0 then none else some (.inl (some (.int (((((a4).toUInt64 >>> ((((Int32.ofInt 17) * (a0 - a0 / (Int32.ofInt 3) * (Int32.ofInt 3)))).toInt64.toUInt64 &&& Int64.toUInt64 63)).toInt64).toInt32) &&& (Int32.ofInt 131071)))), w) else if (Int32.ofInt 3) = 0 then none else some (.inl (some (.int (((((a3).toUInt64 >>> ((((Int32.ofInt 17) * (a0 - a0 / (Int32.ofInt 3) * (Int32.ofInt 3)))).toInt64.toUInt64 &&& Int64.toUInt64 63)).toInt64).toInt32) &&& (Int32.ofInt 131071)))), w) else if (Int32.ofInt 3) = 0 then none else some (.inl (some (.int (((((a2).toUInt64 >>> ((((Int32.ofInt 17) * (a0 - a0 / (Int32.ofInt 3) * (Int32.ofInt 3)))).toInt64.toUInt64 &&& Int64.toUInt64 63)).toInt64).toInt32) &&& (Int32.ofInt 131071)))), w) else if (Int32.ofInt 3) = 0 then none else some (.inl (some (.int (((((a1).toUInt64 >>> ((((Int32.ofInt 17) * (a0 - a0 / (Int32.ofInt 3) * (Int32.ofInt 3)))).toInt64.toUInt64 &&& Int64.toUInt64 63)).toInt64).toInt32) &&& (Int32.ofInt 131071)))), w) := rfl
theorem z_pp_X_placeOf (X : ZX) (d : Nat) (w : ZW) (a0 : Int32) (a1 : Int64) (a2 : Int64) (a3 : Int64) (a4 : Int64) : z_run X z_cf z_ff (d + 1) 153 [.int a0, .long a1, .long a2, .long a3, .long a4] w = some (.inl (some (.int (z_p_X_placeOf a0 a1 a2 a3 a4))), w) := by
  show z_loop X z_cf z_ff (z_run X z_cf z_ff (d + 0)) 153 (99999999 + 1) 0 [(0, .int a0), (1, .long a1), (3, .long a2), (5, .long a3), (7, .long a4)] [] w = _
  rw [z_pb_X_placeOf]
  unfold z_p_X_placeOf
  try simp only [z_n3, if_false]
  first
    | done
    | rfl
    | ((repeat' split) <;> rfl)
    | (simp only [z_b1_wi, z_b1_0, z_b1_1]; done)
    | ((repeat' split) <;> first | rfl | (simp only [z_b1_wi, z_b1_0, z_b1_1]; done))
set_option maxRecDepth 100000 in
theorem z_pb_M_within (X : ZX) (call : ZC) (N : Nat) (w : ZW) (a0 : Int32) (a1 : Int32) (a2 : Int32) : z_loop X z_cf z_ff call 166 (N + 1) 0 [(0, .int a0), (1, .int a1), (2, .int a2)] [] w = if a0 < a1 then z_gd (z_b1 (Int32.ofInt 0)) (some (.inl (some (.int (Int32.ofInt 0))), w)) else if a2 < a0 then z_gd (z_b1 (Int32.ofInt 0)) (some (.inl (some (.int (Int32.ofInt 0))), w)) else z_gd (z_b1 (Int32.ofInt 1)) (some (.inl (some (.int (Int32.ofInt 1))), w)) := rfl
theorem z_pp_M_within (X : ZX) (d : Nat) (w : ZW) (a0 : Int32) (a1 : Int32) (a2 : Int32) : z_run X z_cf z_ff (d + 1) 166 [.int a0, .int a1, .int a2] w = some (.inl (some (.int (z_p_M_within a0 a1 a2))), w) := by
  show z_loop X z_cf z_ff (z_run X z_cf z_ff (d + 0)) 166 (99999999 + 1) 0 [(0, .int a0), (1, .int a1), (2, .int a2)] [] w = _
  rw [z_pb_M_within]
  unfold z_p_M_within
  try simp only [z_n3, if_false]
  first
    | done
    | rfl
    | ((repeat' split) <;> rfl)
    | (simp only [z_b1_wi, z_b1_0, z_b1_1]; done)
    | ((repeat' split) <;> first | rfl | (simp only [z_b1_wi, z_b1_0, z_b1_1]; done))
set_option maxRecDepth 100000 in
theorem z_pb_M_isHard (X : ZX) (call : ZC) (N : Nat) (w : ZW) (a0 : Int32) : z_loop X z_cf z_ff call 169 (N + 1) 0 [(0, .int a0)] [] w = if a0 < (Int32.ofInt 1) then z_gd (z_b1 (Int32.ofInt 0)) (some (.inl (some (.int (Int32.ofInt 0))), w)) else if (Int32.ofInt 99) < a0 then z_gd (z_b1 (Int32.ofInt 0)) (some (.inl (some (.int (Int32.ofInt 0))), w)) else z_gd (z_b1 (Int32.ofInt 1)) (some (.inl (some (.int (Int32.ofInt 1))), w)) := rfl
theorem z_pp_M_isHard (X : ZX) (d : Nat) (w : ZW) (a0 : Int32) : z_run X z_cf z_ff (d + 1) 169 [.int a0] w = some (.inl (some (.int (z_p_M_isHard a0))), w) := by
  show z_loop X z_cf z_ff (z_run X z_cf z_ff (d + 0)) 169 (99999999 + 1) 0 [(0, .int a0)] [] w = _
  rw [z_pb_M_isHard]
  unfold z_p_M_isHard
  try simp only [z_n3, if_false]
  first
    | done
    | rfl
    | ((repeat' split) <;> rfl)
    | (simp only [z_b1_wi, z_b1_0, z_b1_1]; done)
    | ((repeat' split) <;> first | rfl | (simp only [z_b1_wi, z_b1_0, z_b1_1]; done))
set_option maxRecDepth 100000 in
theorem z_pb_M_isThick (X : ZX) (call : ZC) (N : Nat) (w : ZW) (a0 : Int32) : z_loop X z_cf z_ff call 174 (N + 1) 0 [(0, .int a0)] [] w = if a0 < (Int32.ofInt 1) then z_gd (z_b1 (Int32.ofInt 0)) (some (.inl (some (.int (Int32.ofInt 0))), w)) else if (Int32.ofInt 60000) < a0 then z_gd (z_b1 (Int32.ofInt 0)) (some (.inl (some (.int (Int32.ofInt 0))), w)) else z_gd (z_b1 (Int32.ofInt 1)) (some (.inl (some (.int (Int32.ofInt 1))), w)) := rfl
theorem z_pp_M_isThick (X : ZX) (d : Nat) (w : ZW) (a0 : Int32) : z_run X z_cf z_ff (d + 1) 174 [.int a0] w = some (.inl (some (.int (z_p_M_isThick a0))), w) := by
  show z_loop X z_cf z_ff (z_run X z_cf z_ff (d + 0)) 174 (99999999 + 1) 0 [(0, .int a0)] [] w = _
  rw [z_pb_M_isThick]
  unfold z_p_M_isThick
  try simp only [z_n3, if_false]
  first
    | done
    | rfl
    | ((repeat' split) <;> rfl)
    | (simp only [z_b1_wi, z_b1_0, z_b1_1]; done)
    | ((repeat' split) <;> first | rfl | (simp only [z_b1_wi, z_b1_0, z_b1_1]; done))
set_option maxRecDepth 100000 in
theorem z_pb_M_isLetter (X : ZX) (call : ZC) (N : Nat) (w : ZW) (a0 : Int32) : z_loop X z_cf z_ff call 186 (N + 1) 0 [(0, .int a0)] [] w = if a0 < (Int32.ofInt 97) then z_gd (z_b1 (Int32.ofInt 0)) (some (.inl (some (.int (Int32.ofInt 0))), w)) else if (Int32.ofInt 122) < a0 then z_gd (z_b1 (Int32.ofInt 0)) (some (.inl (some (.int (Int32.ofInt 0))), w)) else z_gd (z_b1 (Int32.ofInt 1)) (some (.inl (some (.int (Int32.ofInt 1))), w)) := rfl
theorem z_pp_M_isLetter (X : ZX) (d : Nat) (w : ZW) (a0 : Int32) : z_run X z_cf z_ff (d + 1) 186 [.int a0] w = some (.inl (some (.int (z_p_M_isLetter a0))), w) := by
  show z_loop X z_cf z_ff (z_run X z_cf z_ff (d + 0)) 186 (99999999 + 1) 0 [(0, .int a0)] [] w = _
  rw [z_pb_M_isLetter]
  unfold z_p_M_isLetter
  try simp only [z_n3, if_false]
  first
    | done
    | rfl
    | ((repeat' split) <;> rfl)
    | (simp only [z_b1_wi, z_b1_0, z_b1_1]; done)
    | ((repeat' split) <;> first | rfl | (simp only [z_b1_wi, z_b1_0, z_b1_1]; done))
set_option maxRecDepth 100000 in
theorem z_pb_M_isDigit (X : ZX) (call : ZC) (N : Nat) (w : ZW) (a0 : Int32) : z_loop X z_cf z_ff call 187 (N + 1) 0 [(0, .int a0)] [] w = if a0 < (Int32.ofInt 48) then z_gd (z_b1 (Int32.ofInt 0)) (some (.inl (some (.int (Int32.ofInt 0))), w)) else if (Int32.ofInt 57) < a0 then z_gd (z_b1 (Int32.ofInt 0)) (some (.inl (some (.int (Int32.ofInt 0))), w)) else z_gd (z_b1 (Int32.ofInt 1)) (some (.inl (some (.int (Int32.ofInt 1))), w)) := rfl
theorem z_pp_M_isDigit (X : ZX) (d : Nat) (w : ZW) (a0 : Int32) : z_run X z_cf z_ff (d + 1) 187 [.int a0] w = some (.inl (some (.int (z_p_M_isDigit a0))), w) := by
  show z_loop X z_cf z_ff (z_run X z_cf z_ff (d + 0)) 187 (99999999 + 1) 0 [(0, .int a0)] [] w = _
  rw [z_pb_M_isDigit]
  unfold z_p_M_isDigit
  try simp only [z_n3, if_false]
  first
    | done
    | rfl
    | ((repeat' split) <;> rfl)
    | (simp only [z_b1_wi, z_b1_0, z_b1_1]; done)
    | ((repeat' split) <;> first | rfl | (simp only [z_b1_wi, z_b1_0, z_b1_1]; done))
set_option maxRecDepth 100000 in
theorem z_pb_M_spelled (X : ZX) (call : ZC) (N : Nat) (w : ZW) (a0 : Int32) (a1 : Int32) (a2 : Int32) (a3 : Int32) (a4 : Int32) (a5 : Int32) : z_loop X z_cf z_ff call 192 (N + 1) 0 [(0, .int a0), (1, .int a1), (2, .int a2), (3, .int a3), (4, .int a4), (5, .int a5)] [] w = if a1 = 0 then if a2 = 0 then if a3 = 0 then if a4 = 0 then if a5 = 0 then some (.inl (some (.long ((a0 - (Int32.ofInt 96)).toInt64))), w) else some (.inl (some (.long ((((a0 - (Int32.ofInt 96)).toInt64) <<< (((Int32.ofInt 5)).toInt64 &&& 63)) ||| ((a5 - (Int32.ofInt 96)).toInt64)))), w) else if a5 = 0 then some (.inl (some (.long ((((a0 - (Int32.ofInt 96)).toInt64) <<< (((Int32.ofInt 5)).toInt64 &&& 63)) ||| ((a4 - (Int32.ofInt 96)).toInt64)))), w) else some (.inl (some (.long ((((((a0 - (Int32.ofInt 96)).toInt64) <<< (((Int32.ofInt 5)).toInt64 &&& 63)) ||| ((a4 - (Int32.ofInt 96)).toInt64)) <<< (((Int32.ofInt 5)).toInt64 &&& 63)) ||| ((a5 - (Int32.ofInt 96)).toInt64)))), w) else if a4 = 0 then if a5 = 0 then some (.inl (some (.long ((((a0 - (Int32.ofInt 96)).toInt64) <<< (((Int32.ofInt 5)).toInt64 &&& 63)) ||| ((a3 - (Int32.ofInt 96)).toInt64)))), w) else some (.inl (some (.long ((((((a0 - (Int32.ofInt 96)).toInt64) <<< (((Int32.ofInt 5)).toInt64 &&& 63)) ||| ((a3 - (Int32.ofInt 96)).toInt64)) <<< (((Int32.ofInt 5)).toInt64 &&& 63)) ||| ((a5 - (Int32.ofInt 96)).toInt64)))), w) else if a5 = 0 then some (.inl (some (.long ((((((a0 - (Int32.ofInt 96)).toInt64) <<< (((Int32.ofInt 5)).toInt64 &&& 63)) ||| ((a3 - (Int32.ofInt 96)).toInt64)) <<< (((Int32.ofInt 5)).toInt64 &&& 63)) ||| ((a4 - (Int32.ofInt 96)).toInt64)))), w) else some (.inl (some (.long ((((((((a0 - (Int32.ofInt 96)).toInt64) <<< (((Int32.ofInt 5)).toInt64 &&& 63)) ||| ((a3 - (Int32.ofInt 96)).toInt64)) <<< (((Int32.ofInt 5)).toInt64 &&& 63)) ||| ((a4 - (Int32.ofInt 96)).toInt64)) <<< (((Int32.ofInt 5)).toInt64 &&& 63)) ||| ((a5 - (Int32.ofInt 96)).toInt64)))), w) else if a3 = 0 then if a4 = 0 then if a5 = 0 then some (.inl (some (.long ((((a0 - (Int32.ofInt 96)).toInt64) <<< (((Int32.ofInt 5)).toInt64 &&& 63)) ||| ((a2 - (Int32.ofInt 96)).toInt64)))), w) else some (.inl (some (.long ((((((a0 - (Int32.ofInt 96)).toInt64) <<< (((Int32.ofInt 5)).toInt64 &&& 63)) ||| ((a2 - (Int32.ofInt 96)).toInt64)) <<< (((Int32.ofInt 5)).toInt64 &&& 63)) ||| ((a5 - (Int32.ofInt 96)).toInt64)))), w) else if a5 = 0 then some (.inl (some (.long ((((((a0 - (Int32.ofInt 96)).toInt64) <<< (((Int32.ofInt 5)).toInt64 &&& 63)) ||| ((a2 - (Int32.ofInt 96)).toInt64)) <<< (((Int32.ofInt 5)).toInt64 &&& 63)) ||| ((a4 - (Int32.ofInt 96)).toInt64)))), w) else some (.inl (some (.long ((((((((a0 - (Int32.ofInt 96)).toInt64) <<< (((Int32.ofInt 5)).toInt64 &&& 63)) ||| ((a2 - (Int32.ofInt 96)).toInt64)) <<< (((Int32.ofInt 5)).toInt64 &&& 63)) ||| ((a4 - (Int32.ofInt 96)).toInt64)) <<< (((Int32.ofInt 5)).toInt64 &&& 63)) ||| ((a5 - (Int32.ofInt 96)).toInt64)))), w) else if a4 = 0 then if a5 = 0 then some (.inl (some (.long ((((((a0 - (Int32.ofInt 96)).toInt64) <<< (((Int32.ofInt 5)).toInt64 &&& 63)) ||| ((a2 - (Int32.ofInt 96)).toInt64)) <<< (((Int32.ofInt 5)).toInt64 &&& 63)) ||| ((a3 - (Int32.ofInt 96)).toInt64)))), w) else some (.inl (some (.long ((((((((a0 - (Int32.ofInt 96)).toInt64) <<< (((Int32.ofInt 5)).toInt64 &&& 63)) ||| ((a2 - (Int32.ofInt 96)).toInt64)) <<< (((Int32.ofInt 5)).toInt64 &&& 63)) ||| ((a3 - (Int32.ofInt 96)).toInt64)) <<< (((Int32.ofInt 5)).toInt64 &&& 63)) ||| ((a5 - (Int32.ofInt 96)).toInt64)))), w) else if a5 = 0 then some (.inl (some (.long ((((((((a0 - (Int32.ofInt 96)).toInt64) <<< (((Int32.ofInt 5)).toInt64 &&& 63)) ||| ((a2 - (Int32.ofInt 96)).toInt64)) <<< (((Int32.ofInt 5)).toInt64 &&& 63)) ||| ((a3 - (Int32.ofInt 96)).toInt64)) <<< (((Int32.ofInt 5)).toInt64 &&& 63)) ||| ((a4 - (Int32.ofInt 96)).toInt64)))), w) else some (.inl (some (.long ((((((((((a0 - (Int32.ofInt 96)).toInt64) <<< (((Int32.ofInt 5)).toInt64 &&& 63)) ||| ((a2 - (Int32.ofInt 96)).toInt64)) <<< (((Int32.ofInt 5)).toInt64 &&& 63)) ||| ((a3 - (Int32.ofInt 96)).toInt64)) <<< (((Int32.ofInt 5)).toInt64 &&& 63)) ||| ((a4 - (Int32.ofInt 96)).toInt64)) <<< (((Int32.ofInt 5)).toInt64 &&& 63)) ||| ((a5 - (Int32.ofInt 96)).toInt64)))), w) else if a2 = 0 then if a3 = 0 then if a4 = 0 then if a5 = 0 then some (.inl (some (.long ((((a0 - (Int32.ofInt 96)).toInt64) <<< (((Int32.ofInt 5)).toInt64 &&& 63)) ||| ((a1 - (Int32.ofInt 96)).toInt64)))), w) else some (.inl (some (.long ((((((a0 - (Int32.ofInt 96)).toInt64) <<< (((Int32.ofInt 5)).toInt64 &&& 63)) ||| ((a1 - (Int32.ofInt 96)).toInt64)) <<< (((Int32.ofInt 5)).toInt64 &&& 63)) ||| ((a5 - (Int32.ofInt 96)).toInt64)))), w) else if a5 = 0 then some (.inl (some (.long ((((((a0 - (Int32.ofInt 96)).toInt64) <<< (((Int32.ofInt 5)).toInt64 &&& 63)) ||| ((a1 - (Int32.ofInt 96)).toInt64)) <<< (((Int32.ofInt 5)).toInt64 &&& 63)) ||| ((a4 - (Int32.ofInt 96)).toInt64)))), w) else some (.inl (some (.long ((((((((a0 - (Int32.ofInt 96)).toInt64) <<< (((Int32.ofInt 5)).toInt64 &&& 63)) ||| ((a1 - (Int32.ofInt 96)).toInt64)) <<< (((Int32.ofInt 5)).toInt64 &&& 63)) ||| ((a4 - (Int32.ofInt 96)).toInt64)) <<< (((Int32.ofInt 5)).toInt64 &&& 63)) ||| ((a5 - (Int32.ofInt 96)).toInt64)))), w) else if a4 = 0 then if a5 = 0 then some (.inl (some (.long ((((((a0 - (Int32.ofInt 96)).toInt64) <<< (((Int32.ofInt 5)).toInt64 &&& 63)) ||| ((a1 - (Int32.ofInt 96)).toInt64)) <<< (((Int32.ofInt 5)).toInt64 &&& 63)) ||| ((a3 - (Int32.ofInt 96)).toInt64)))), w) else some (.inl (some (.long ((((((((a0 - (Int32.ofInt 96)).toInt64) <<< (((Int32.ofInt 5)).toInt64 &&& 63)) ||| ((a1 - (Int32.ofInt 96)).toInt64)) <<< (((Int32.ofInt 5)).toInt64 &&& 63)) ||| ((a3 - (Int32.ofInt 96)).toInt64)) <<< (((Int32.ofInt 5)).toInt64 &&& 63)) ||| ((a5 - (Int32.ofInt 96)).toInt64)))), w) else if a5 = 0 then some (.inl (some (.long ((((((((a0 - (Int32.ofInt 96)).toInt64) <<< (((Int32.ofInt 5)).toInt64 &&& 63)) ||| ((a1 - (Int32.ofInt 96)).toInt64)) <<< (((Int32.ofInt 5)).toInt64 &&& 63)) ||| ((a3 - (Int32.ofInt 96)).toInt64)) <<< (((Int32.ofInt 5)).toInt64 &&& 63)) ||| ((a4 - (Int32.ofInt 96)).toInt64)))), w) else some (.inl (some (.long ((((((((((a0 - (Int32.ofInt 96)).toInt64) <<< (((Int32.ofInt 5)).toInt64 &&& 63)) ||| ((a1 - (Int32.ofInt 96)).toInt64)) <<< (((Int32.ofInt 5)).toInt64 &&& 63)) ||| ((a3 - (Int32.ofInt 96)).toInt64)) <<< (((Int32.ofInt 5)).toInt64 &&& 63)) ||| ((a4 - (Int32.ofInt 96)).toInt64)) <<< (((Int32.ofInt 5)).toInt64 &&& 63)) ||| ((a5 - (Int32.ofInt 96)).toInt64)))), w) else if a3 = 0 then if a4 = 0 then if a5 = 0 then some (.inl (some (.long ((((((a0 - (Int32.ofInt 96)).toInt64) <<< (((Int32.ofInt 5)).toInt64 &&& 63)) ||| ((a1 - (Int32.ofInt 96)).toInt64)) <<< (((Int32.ofInt 5)).toInt64 &&& 63)) ||| ((a2 - (Int32.ofInt 96)).toInt64)))), w) else some (.inl (some (.long ((((((((a0 - (Int32.ofInt 96)).toInt64) <<< (((Int32.ofInt 5)).toInt64 &&& 63)) ||| ((a1 - (Int32.ofInt 96)).toInt64)) <<< (((Int32.ofInt 5)).toInt64 &&& 63)) ||| ((a2 - (Int32.ofInt 96)).toInt64)) <<< (((Int32.ofInt 5)).toInt64 &&& 63)) ||| ((a5 - (Int32.ofInt 96)).toInt64)))), w) else if a5 = 0 then some (.inl (some (.long ((((((((a0 - (Int32.ofInt 96)).toInt64) <<< (((Int32.ofInt 5)).toInt64 &&& 63)) ||| ((a1 - (Int32.ofInt 96)).toInt64)) <<< (((Int32.ofInt 5)).toInt64 &&& 63)) ||| ((a2 - (Int32.ofInt 96)).toInt64)) <<< (((Int32.ofInt 5)).toInt64 &&& 63)) ||| ((a4 - (Int32.ofInt 96)).toInt64)))), w) else some (.inl (some (.long ((((((((((a0 - (Int32.ofInt 96)).toInt64) <<< (((Int32.ofInt 5)).toInt64 &&& 63)) ||| ((a1 - (Int32.ofInt 96)).toInt64)) <<< (((Int32.ofInt 5)).toInt64 &&& 63)) ||| ((a2 - (Int32.ofInt 96)).toInt64)) <<< (((Int32.ofInt 5)).toInt64 &&& 63)) ||| ((a4 - (Int32.ofInt 96)).toInt64)) <<< (((Int32.ofInt 5)).toInt64 &&& 63)) ||| ((a5 - (Int32.ofInt 96)).toInt64)))), w) else if a4 = 0 then if a5 = 0 then some (.inl (some (.long ((((((((a0 - (Int32.ofInt 96)).toInt64) <<< (((Int32.ofInt 5)).toInt64 &&& 63)) ||| ((a1 - (Int32.ofInt 96)).toInt64)) <<< (((Int32.ofInt 5)).toInt64 &&& 63)) ||| ((a2 - (Int32.ofInt 96)).toInt64)) <<< (((Int32.ofInt 5)).toInt64 &&& 63)) ||| ((a3 - (Int32.ofInt 96)).toInt64)))), w) else some (.inl (some (.long ((((((((((a0 - (Int32.ofInt 96)).toInt64) <<< (((Int32.ofInt 5)).toInt64 &&& 63)) ||| ((a1 - (Int32.ofInt 96)).toInt64)) <<< (((Int32.ofInt 5)).toInt64 &&& 63)) ||| ((a2 - (Int32.ofInt 96)).toInt64)) <<< (((Int32.ofInt 5)).toInt64 &&& 63)) ||| ((a3 - (Int32.ofInt 96)).toInt64)) <<< (((Int32.ofInt 5)).toInt64 &&& 63)) ||| ((a5 - (Int32.ofInt 96)).toInt64)))), w) else if a5 = 0 then some (.inl (some (.long ((((((((((a0 - (Int32.ofInt 96)).toInt64) <<< (((Int32.ofInt 5)).toInt64 &&& 63)) ||| ((a1 - (Int32.ofInt 96)).toInt64)) <<< (((Int32.ofInt 5)).toInt64 &&& 63)) ||| ((a2 - (Int32.ofInt 96)).toInt64)) <<< (((Int32.ofInt 5)).toInt64 &&& 63)) ||| ((a3 - (Int32.ofInt 96)).toInt64)) <<< (((Int32.ofInt 5)).toInt64 &&& 63)) ||| ((a4 - (Int32.ofInt 96)).toInt64)))), w) else some (.inl (some (.long ((((((((((((a0 - (Int32.ofInt 96)).toInt64) <<< (((Int32.ofInt 5)).toInt64 &&& 63)) ||| ((a1 - (Int32.ofInt 96)).toInt64)) <<< (((Int32.ofInt 5)).toInt64 &&& 63)) ||| ((a2 - (Int32.ofInt 96)).toInt64)) <<< (((Int32.ofInt 5)).toInt64 &&& 63)) ||| ((a3 - (Int32.ofInt 96)).toInt64)) <<< (((Int32.ofInt 5)).toInt64 &&& 63)) ||| ((a4 - (Int32.ofInt 96)).toInt64)) <<< (((Int32.ofInt 5)).toInt64 &&& 63)) ||| ((a5 - (Int32.ofInt 96)).toInt64)))), w) := rfl
theorem z_pp_M_spelled (X : ZX) (d : Nat) (w : ZW) (a0 : Int32) (a1 : Int32) (a2 : Int32) (a3 : Int32) (a4 : Int32) (a5 : Int32) : z_run X z_cf z_ff (d + 1) 192 [.int a0, .int a1, .int a2, .int a3, .int a4, .int a5] w = some (.inl (some (.long (z_p_M_spelled a0 a1 a2 a3 a4 a5))), w) := by
  show z_loop X z_cf z_ff (z_run X z_cf z_ff (d + 0)) 192 (99999999 + 1) 0 [(0, .int a0), (1, .int a1), (2, .int a2), (3, .int a3), (4, .int a4), (5, .int a5)] [] w = _
  rw [z_pb_M_spelled]
  unfold z_p_M_spelled
  try simp only [z_n3, if_false]
  first
    | done
    | rfl
    | ((repeat' split) <;> rfl)
    | (simp only [z_b1_wi, z_b1_0, z_b1_1]; done)
    | ((repeat' split) <;> first | rfl | (simp only [z_b1_wi, z_b1_0, z_b1_1]; done))
set_option maxRecDepth 100000 in
theorem z_pb_M_strength (X : ZX) (call : ZC) (N : Nat) (w : ZW) (a0 : Int32) : z_loop X z_cf z_ff call 204 (N + 1) 0 [(0, .int a0)] [] w = if a0 = (Int32.ofInt 12) then some (.inl (some (.int (Int32.ofInt 0))), w) else if a0 = (Int32.ofInt 5) then some (.inl (some (.int (Int32.ofInt 1))), w) else if a0 = (Int32.ofInt 4) then some (.inl (some (.int (Int32.ofInt 2))), w) else if a0 = (Int32.ofInt 3) then some (.inl (some (.int (Int32.ofInt 3))), w) else if a0 = (Int32.ofInt 6) then some (.inl (some (.int (Int32.ofInt 4))), w) else if a0 = (Int32.ofInt 7) then some (.inl (some (.int (Int32.ofInt 4))), w) else if a0 = (Int32.ofInt 8) then some (.inl (some (.int (Int32.ofInt 5))), w) else if a0 = (Int32.ofInt 9) then some (.inl (some (.int (Int32.ofInt 5))), w) else some (.inl (some (.int (Int32.ofInt 6))), w) := rfl
theorem z_pp_M_strength (X : ZX) (d : Nat) (w : ZW) (a0 : Int32) : z_run X z_cf z_ff (d + 1) 204 [.int a0] w = some (.inl (some (.int (z_p_M_strength a0))), w) := by
  show z_loop X z_cf z_ff (z_run X z_cf z_ff (d + 0)) 204 (99999999 + 1) 0 [(0, .int a0)] [] w = _
  rw [z_pb_M_strength]
  unfold z_p_M_strength
  try simp only [z_n3, if_false]
  first
    | done
    | rfl
    | ((repeat' split) <;> rfl)
    | (simp only [z_b1_wi, z_b1_0, z_b1_1]; done)
    | ((repeat' split) <;> first | rfl | (simp only [z_b1_wi, z_b1_0, z_b1_1]; done))
set_option maxRecDepth 100000 in
theorem z_pb_M_markAt (X : ZX) (call : ZC) (N : Nat) (w : ZW) (a0 : Int32) (a1 : Int64) (a2 : Int64) (a3 : Int64) (a4 : Int64) : z_loop X z_cf z_ff call 237 (N + 1) 0 [(0, .int a0), (1, .long a1), (3, .long a2), (5, .long a3), (7, .long a4)] [] w = if (Int32.ofInt 3) ≤ a0 then if (Int32.ofInt 6) ≤ a0 then if (Int32.ofInt 9) ≤ a0 then if (Int32.ofInt 3) = 0 then none else some (.inl (some (.int (((a4 >>> ((((Int32.ofInt 17) * (a0 - a0 / (Int32.ofInt 3) * (Int32.ofInt 3)))).toInt64 &&& 63)) &&& (Int64.ofInt 131071)).toInt32))), w) else if (Int32.ofInt 3) = 0 then none else some (.inl (some (.int (((a3 >>> ((((Int32.ofInt 17) * (a0 - a0 / (Int32.ofInt 3) * (Int32.ofInt 3)))).toInt64 &&& 63)) &&& (Int64.ofInt 131071)).toInt32))), w) else if (Int32.ofInt 3) = 0 then none else some (.inl (some (.int (((a2 >>> ((((Int32.ofInt 17) * (a0 - a0 / (Int32.ofInt 3) * (Int32.ofInt 3)))).toInt64 &&& 63)) &&& (Int64.ofInt 131071)).toInt32))), w) else if (Int32.ofInt 3) = 0 then none else some (.inl (some (.int (((a1 >>> ((((Int32.ofInt 17) * (a0 - a0 / (Int32.ofInt 3) * (Int32.ofInt 3)))).toInt64 &&& 63)) &&& (Int64.ofInt 131071)).toInt32))), w) := rfl
theorem z_pp_M_markAt (X : ZX) (d : Nat) (w : ZW) (a0 : Int32) (a1 : Int64) (a2 : Int64) (a3 : Int64) (a4 : Int64) : z_run X z_cf z_ff (d + 1) 237 [.int a0, .long a1, .long a2, .long a3, .long a4] w = some (.inl (some (.int (z_p_M_markAt a0 a1 a2 a3 a4))), w) := by
  show z_loop X z_cf z_ff (z_run X z_cf z_ff (d + 0)) 237 (99999999 + 1) 0 [(0, .int a0), (1, .long a1), (3, .long a2), (5, .long a3), (7, .long a4)] [] w = _
  rw [z_pb_M_markAt]
  unfold z_p_M_markAt
  try simp only [z_n3, if_false]
  first
    | done
    | rfl
    | ((repeat' split) <;> rfl)
    | (simp only [z_b1_wi, z_b1_0, z_b1_1]; done)
    | ((repeat' split) <;> first | rfl | (simp only [z_b1_wi, z_b1_0, z_b1_1]; done))
set_option maxRecDepth 100000 in
theorem z_pb_M_at (X : ZX) (call : ZC) (N : Nat) (w : ZW) (a0 : Int32) (a1 : Int32) (a2 : Int32) : z_loop X z_cf z_ff call 242 (N + 1) 0 [(0, .int a0), (1, .int a1), (2, .int a2)] [] w = some (.inl (some (.int ((((Int32.ofInt 81) * a0) + ((Int32.ofInt 9) * a1)) + a2))), w) := rfl
theorem z_pp_M_at (X : ZX) (d : Nat) (w : ZW) (a0 : Int32) (a1 : Int32) (a2 : Int32) : z_run X z_cf z_ff (d + 1) 242 [.int a0, .int a1, .int a2] w = some (.inl (some (.int (z_p_M_at a0 a1 a2))), w) := by
  show z_loop X z_cf z_ff (z_run X z_cf z_ff (d + 0)) 242 (99999999 + 1) 0 [(0, .int a0), (1, .int a1), (2, .int a2)] [] w = _
  rw [z_pb_M_at]
  unfold z_p_M_at
  try simp only [z_n3, if_false]
  first
    | done
    | rfl
    | ((repeat' split) <;> rfl)
    | (simp only [z_b1_wi, z_b1_0, z_b1_1]; done)
    | ((repeat' split) <;> first | rfl | (simp only [z_b1_wi, z_b1_0, z_b1_1]; done))
theorem z_pe0 (X : ZX) (d : Nat) : z_pu0 (z_run X z_cf z_ff (d + 1)) = z_run X z_cf z_ff (d + 1) := by
  funext y av w
  show (match z_pd0 y av with | some v => (some (.inl (some v), w) : ZR) | none => z_run X z_cf z_ff (d + 1) y av w) = _
  split
  · rename_i v h
    rcases z_pc h with ⟨hb, h⟩ | ⟨hb, h⟩
    · rcases z_pc h with ⟨hb, h⟩ | ⟨hb, h⟩
      · rcases z_pc h with ⟨hb, h⟩ | ⟨hb, h⟩
        · rcases z_pc h with ⟨hb, h⟩ | ⟨hb, h⟩
          · rcases z_pc h with ⟨hb, h⟩ | ⟨hb, h⟩
            · have e := z_beq_t hb
              subst e
              unfold z_pq_Integer_bitCount at h
              split at h
              · cases h
                exact (z_pp_Integer_bitCount X (d + 0) w _).symm
              · cases h
            · cases h
          · rcases z_pc h with ⟨hb, h⟩ | ⟨hb, h⟩
            · have e := z_beq_t hb
              subst e
              unfold z_pq_Orders_indexOf at h
              split at h
              · cases h
                exact (z_pp_Orders_indexOf X (d + 0) w _ _).symm
              · cases h
            · cases h
        · rcases z_pc h with ⟨hb, h⟩ | ⟨hb, h⟩
          · rcases z_pc h with ⟨hb, h⟩ | ⟨hb, h⟩
            · have e := z_beq_t hb
              subst e
              unfold z_pq_Orders_orderShift at h
              split at h
              · cases h
                exact (z_pp_Orders_orderShift X (d + 0) w _).symm
              · cases h
            · cases h
          · rcases z_pc h with ⟨hb, h⟩ | ⟨hb, h⟩
            · have e := z_beq_t hb
              subst e
              unfold z_pq_Orders_changeShift at h
              split at h
              · cases h
                exact (z_pp_Orders_changeShift X (d + 0) w _).symm
              · cases h
            · cases h
      · rcases z_pc h with ⟨hb, h⟩ | ⟨hb, h⟩
        · rcases z_pc h with ⟨hb, h⟩ | ⟨hb, h⟩
          · rcases z_pc h with ⟨hb, h⟩ | ⟨hb, h⟩
            · have e := z_beq_t hb
              subst e
              unfold z_pq_Token_isWord at h
              split at h
              · cases h
                exact (z_pp_Token_isWord X (d + 0) w _).symm
              · cases h
            · cases h
          · rcases z_pc h with ⟨hb, h⟩ | ⟨hb, h⟩
            · have e := z_beq_t hb
              subst e
              unfold z_pq_Planner_pressIndex at h
              split at h
              · cases h
                exact (z_pp_Planner_pressIndex X (d + 0) w _ _ _).symm
              · cases h
            · cases h
        · rcases z_pc h with ⟨hb, h⟩ | ⟨hb, h⟩
          · rcases z_pc h with ⟨hb, h⟩ | ⟨hb, h⟩
            · have e := z_beq_t hb
              subst e
              unfold z_pq_X_within at h
              split at h
              · cases h
                exact (z_pp_X_within X (d + 0) w _ _ _).symm
              · cases h
            · cases h
          · rcases z_pc h with ⟨hb, h⟩ | ⟨hb, h⟩
            · have e := z_beq_t hb
              subst e
              unfold z_pq_X_placeOf at h
              split at h
              · cases h
                exact (z_pp_X_placeOf X (d + 0) w _ _ _ _ _).symm
              · cases h
            · cases h
    · rcases z_pc h with ⟨hb, h⟩ | ⟨hb, h⟩
      · rcases z_pc h with ⟨hb, h⟩ | ⟨hb, h⟩
        · rcases z_pc h with ⟨hb, h⟩ | ⟨hb, h⟩
          · rcases z_pc h with ⟨hb, h⟩ | ⟨hb, h⟩
            · have e := z_beq_t hb
              subst e
              unfold z_pq_M_within at h
              split at h
              · cases h
                exact (z_pp_M_within X (d + 0) w _ _ _).symm
              · cases h
            · cases h
          · rcases z_pc h with ⟨hb, h⟩ | ⟨hb, h⟩
            · have e := z_beq_t hb
              subst e
              unfold z_pq_M_isHard at h
              split at h
              · cases h
                exact (z_pp_M_isHard X (d + 0) w _).symm
              · cases h
            · cases h
        · rcases z_pc h with ⟨hb, h⟩ | ⟨hb, h⟩
          · rcases z_pc h with ⟨hb, h⟩ | ⟨hb, h⟩
            · have e := z_beq_t hb
              subst e
              unfold z_pq_M_isThick at h
              split at h
              · cases h
                exact (z_pp_M_isThick X (d + 0) w _).symm
              · cases h
            · cases h
          · rcases z_pc h with ⟨hb, h⟩ | ⟨hb, h⟩
            · have e := z_beq_t hb
              subst e
              unfold z_pq_M_isLetter at h
              split at h
              · cases h
                exact (z_pp_M_isLetter X (d + 0) w _).symm
              · cases h
            · cases h
      · rcases z_pc h with ⟨hb, h⟩ | ⟨hb, h⟩
        · rcases z_pc h with ⟨hb, h⟩ | ⟨hb, h⟩
          · rcases z_pc h with ⟨hb, h⟩ | ⟨hb, h⟩
            · have e := z_beq_t hb
              subst e
              unfold z_pq_M_isDigit at h
              split at h
              · cases h
                exact (z_pp_M_isDigit X (d + 0) w _).symm
              · cases h
            · cases h
          · rcases z_pc h with ⟨hb, h⟩ | ⟨hb, h⟩
            · have e := z_beq_t hb
              subst e
              unfold z_pq_M_spelled at h
              split at h
              · cases h
                exact (z_pp_M_spelled X (d + 0) w _ _ _ _ _ _).symm
              · cases h
            · cases h
        · rcases z_pc h with ⟨hb, h⟩ | ⟨hb, h⟩
          · rcases z_pc h with ⟨hb, h⟩ | ⟨hb, h⟩
            · have e := z_beq_t hb
              subst e
              unfold z_pq_M_strength at h
              split at h
              · cases h
                exact (z_pp_M_strength X (d + 0) w _).symm
              · cases h
            · cases h
          · rcases z_pc h with ⟨hb, h⟩ | ⟨hb, h⟩
            · rcases z_pc h with ⟨hb, h⟩ | ⟨hb, h⟩
              · have e := z_beq_t hb
                subst e
                unfold z_pq_M_markAt at h
                split at h
                · cases h
                  exact (z_pp_M_markAt X (d + 0) w _ _ _ _ _).symm
                · cases h
              · cases h
            · rcases z_pc h with ⟨hb, h⟩ | ⟨hb, h⟩
              · have e := z_beq_t hb
                subst e
                unfold z_pq_M_at at h
                split at h
                · cases h
                  exact (z_pp_M_at X (d + 0) w _ _ _).symm
                · cases h
              · cases h
  · rfl
set_option maxRecDepth 100000 in
theorem z_pb_Reader_isLetter (X : ZX) (call : ZC) (N : Nat) (w : ZW) (a0 : Int32) : z_loop X z_cf z_ff (z_pu0 call) 57 (N + 1) 0 [(0, .int a0)] [] w = z_gd (z_b1 (z_p_X_within a0 (Int32.ofInt 97) (Int32.ofInt 122))) (some (.inl (some (.int (z_p_X_within a0 (Int32.ofInt 97) (Int32.ofInt 122)))), w)) := rfl
theorem z_pp_Reader_isLetter (X : ZX) (d : Nat) (w : ZW) (a0 : Int32) : z_run X z_cf z_ff (d + 2) 57 [.int a0] w = some (.inl (some (.int (z_p_Reader_isLetter a0))), w) := by
  have hc : z_pu0 (z_run X z_cf z_ff (d + 1)) = z_run X z_cf z_ff (d + 1) := z_pe0 X d
  show z_loop X z_cf z_ff (z_run X z_cf z_ff (d + 1)) 57 (99999999 + 1) 0 [(0, .int a0)] [] w = _
  rw [← hc]
  rw [z_pb_Reader_isLetter]
  unfold z_p_Reader_isLetter
  try simp only [z_n3, if_false]
  first
    | done
    | rfl
    | ((repeat' split) <;> rfl)
    | (simp only [z_b1_wi, z_b1_0, z_b1_1]; done)
    | ((repeat' split) <;> first | rfl | (simp only [z_b1_wi, z_b1_0, z_b1_1]; done))
set_option maxRecDepth 100000 in
theorem z_pb_Reader_isDigit (X : ZX) (call : ZC) (N : Nat) (w : ZW) (a0 : Int32) : z_loop X z_cf z_ff (z_pu0 call) 60 (N + 1) 0 [(0, .int a0)] [] w = z_gd (z_b1 (z_p_X_within a0 (Int32.ofInt 48) (Int32.ofInt 57))) (some (.inl (some (.int (z_p_X_within a0 (Int32.ofInt 48) (Int32.ofInt 57)))), w)) := rfl
theorem z_pp_Reader_isDigit (X : ZX) (d : Nat) (w : ZW) (a0 : Int32) : z_run X z_cf z_ff (d + 2) 60 [.int a0] w = some (.inl (some (.int (z_p_Reader_isDigit a0))), w) := by
  have hc : z_pu0 (z_run X z_cf z_ff (d + 1)) = z_run X z_cf z_ff (d + 1) := z_pe0 X d
  show z_loop X z_cf z_ff (z_run X z_cf z_ff (d + 1)) 60 (99999999 + 1) 0 [(0, .int a0)] [] w = _
  rw [← hc]
  rw [z_pb_Reader_isDigit]
  unfold z_p_Reader_isDigit
  try simp only [z_n3, if_false]
  first
    | done
    | rfl
    | ((repeat' split) <;> rfl)
    | (simp only [z_b1_wi, z_b1_0, z_b1_1]; done)
    | ((repeat' split) <;> first | rfl | (simp only [z_b1_wi, z_b1_0, z_b1_1]; done))
set_option maxRecDepth 100000 in
theorem z_pb_Reader_isSign (X : ZX) (call : ZC) (N : Nat) (w : ZW) (a0 : Int32) : z_loop X z_cf z_ff (z_pu0 call) 62 (N + 1) 0 [(0, .int a0)] [] w = if (z_p_X_within a0 (Int32.ofInt 40) (Int32.ofInt 43)) = 0 then if a0 = (Int32.ofInt 45) then z_gd (z_b1 (Int32.ofInt 1)) (some (.inl (some (.int (Int32.ofInt 1))), w)) else if a0 = (Int32.ofInt 47) then z_gd (z_b1 (Int32.ofInt 1)) (some (.inl (some (.int (Int32.ofInt 1))), w)) else if (z_p_X_within a0 (Int32.ofInt 59) (Int32.ofInt 61)) = 0 then z_gd (z_b1 (Int32.ofInt 0)) (some (.inl (some (.int (Int32.ofInt 0))), w)) else z_gd (z_b1 (Int32.ofInt 1)) (some (.inl (some (.int (Int32.ofInt 1))), w)) else z_gd (z_b1 (Int32.ofInt 1)) (some (.inl (some (.int (Int32.ofInt 1))), w)) := rfl
theorem z_pp_Reader_isSign (X : ZX) (d : Nat) (w : ZW) (a0 : Int32) : z_run X z_cf z_ff (d + 2) 62 [.int a0] w = some (.inl (some (.int (z_p_Reader_isSign a0))), w) := by
  have hc : z_pu0 (z_run X z_cf z_ff (d + 1)) = z_run X z_cf z_ff (d + 1) := z_pe0 X d
  show z_loop X z_cf z_ff (z_run X z_cf z_ff (d + 1)) 62 (99999999 + 1) 0 [(0, .int a0)] [] w = _
  rw [← hc]
  rw [z_pb_Reader_isSign]
  unfold z_p_Reader_isSign
  try simp only [z_n3, if_false]
  first
    | done
    | rfl
    | ((repeat' split) <;> rfl)
    | (simp only [z_b1_wi, z_b1_0, z_b1_1]; done)
    | ((repeat' split) <;> first | rfl | (simp only [z_b1_wi, z_b1_0, z_b1_1]; done))
set_option maxRecDepth 100000 in
theorem z_pb_Token_isValue (X : ZX) (call : ZC) (N : Nat) (w : ZW) (a0 : Int32) : z_loop X z_cf z_ff (z_pu0 call) 76 (N + 1) 0 [(0, .int a0)] [] w = z_gd (z_b1 (z_p_X_within a0 (Int32.ofInt 100) (Int32.ofInt 109))) (some (.inl (some (.int (z_p_X_within a0 (Int32.ofInt 100) (Int32.ofInt 109)))), w)) := rfl
theorem z_pp_Token_isValue (X : ZX) (d : Nat) (w : ZW) (a0 : Int32) : z_run X z_cf z_ff (d + 2) 76 [.int a0] w = some (.inl (some (.int (z_p_Token_isValue a0))), w) := by
  have hc : z_pu0 (z_run X z_cf z_ff (d + 1)) = z_run X z_cf z_ff (d + 1) := z_pe0 X d
  show z_loop X z_cf z_ff (z_run X z_cf z_ff (d + 1)) 76 (99999999 + 1) 0 [(0, .int a0)] [] w = _
  rw [← hc]
  rw [z_pb_Token_isValue]
  unfold z_p_Token_isValue
  try simp only [z_n3, if_false]
  first
    | done
    | rfl
    | ((repeat' split) <;> rfl)
    | (simp only [z_b1_wi, z_b1_0, z_b1_1]; done)
    | ((repeat' split) <;> first | rfl | (simp only [z_b1_wi, z_b1_0, z_b1_1]; done))
set_option maxRecDepth 100000 in
theorem z_pb_X_isFrame (X : ZX) (call : ZC) (N : Nat) (w : ZW) (a0 : Int32) (a1 : Int32) (a2 : Int32) (a3 : Int32) : z_loop X z_cf z_ff (z_pu0 call) 120 (N + 1) 0 [(0, .int a0), (1, .int a1), (2, .int a2), (3, .int a3)] [] w = if (z_p_X_within a0 (Int32.ofInt 1) (Int32.ofInt 999)) = 0 then z_gd (z_b1 (Int32.ofInt 0)) (some (.inl (some (.int (Int32.ofInt 0))), w)) else if (z_p_X_within a1 (Int32.ofInt 1) (Int32.ofInt 9999999)) = 0 then z_gd (z_b1 (Int32.ofInt 0)) (some (.inl (some (.int (Int32.ofInt 0))), w)) else if (z_p_X_within a2 (Int32.ofInt 0) (Int32.ofInt 60000)) = 0 then z_gd (z_b1 (Int32.ofInt 0)) (some (.inl (some (.int (Int32.ofInt 0))), w)) else if (z_p_X_within a3 a2 (Int32.ofInt 60000)) = 0 then z_gd (z_b1 (Int32.ofInt 0)) (some (.inl (some (.int (Int32.ofInt 0))), w)) else z_gd (z_b1 (Int32.ofInt 1)) (some (.inl (some (.int (Int32.ofInt 1))), w)) := rfl
theorem z_pp_X_isFrame (X : ZX) (d : Nat) (w : ZW) (a0 : Int32) (a1 : Int32) (a2 : Int32) (a3 : Int32) : z_run X z_cf z_ff (d + 2) 120 [.int a0, .int a1, .int a2, .int a3] w = some (.inl (some (.int (z_p_X_isFrame a0 a1 a2 a3))), w) := by
  have hc : z_pu0 (z_run X z_cf z_ff (d + 1)) = z_run X z_cf z_ff (d + 1) := z_pe0 X d
  show z_loop X z_cf z_ff (z_run X z_cf z_ff (d + 1)) 120 (99999999 + 1) 0 [(0, .int a0), (1, .int a1), (2, .int a2), (3, .int a3)] [] w = _
  rw [← hc]
  rw [z_pb_X_isFrame]
  unfold z_p_X_isFrame
  try simp only [z_n3, if_false]
  first
    | done
    | rfl
    | ((repeat' split) <;> rfl)
    | (simp only [z_b1_wi, z_b1_0, z_b1_1]; done)
    | ((repeat' split) <;> first | rfl | (simp only [z_b1_wi, z_b1_0, z_b1_1]; done))
set_option maxRecDepth 100000 in
theorem z_pb_X_isDrive (X : ZX) (call : ZC) (N : Nat) (w : ZW) (a0 : Int32) (a1 : Int32) (a2 : Int32) (a3 : Int32) : z_loop X z_cf z_ff (z_pu0 call) 122 (N + 1) 0 [(0, .int a0), (1, .int a1), (2, .int a2), (3, .int a3)] [] w = if (z_p_X_within a0 (Int32.ofInt 1) (Int32.ofInt 60000)) = 0 then z_gd (z_b1 (Int32.ofInt 0)) (some (.inl (some (.int (Int32.ofInt 0))), w)) else if (z_p_X_within a1 (Int32.ofInt 1) (Int32.ofInt 999)) = 0 then z_gd (z_b1 (Int32.ofInt 0)) (some (.inl (some (.int (Int32.ofInt 0))), w)) else if (z_p_X_within a2 (Int32.ofInt 100) (Int32.ofInt 4000)) = 0 then z_gd (z_b1 (Int32.ofInt 0)) (some (.inl (some (.int (Int32.ofInt 0))), w)) else if (z_p_X_within a3 (Int32.ofInt 0) (Int32.ofInt 9)) = 0 then z_gd (z_b1 (Int32.ofInt 0)) (some (.inl (some (.int (Int32.ofInt 0))), w)) else z_gd (z_b1 (Int32.ofInt 1)) (some (.inl (some (.int (Int32.ofInt 1))), w)) := rfl
theorem z_pp_X_isDrive (X : ZX) (d : Nat) (w : ZW) (a0 : Int32) (a1 : Int32) (a2 : Int32) (a3 : Int32) : z_run X z_cf z_ff (d + 2) 122 [.int a0, .int a1, .int a2, .int a3] w = some (.inl (some (.int (z_p_X_isDrive a0 a1 a2 a3))), w) := by
  have hc : z_pu0 (z_run X z_cf z_ff (d + 1)) = z_run X z_cf z_ff (d + 1) := z_pe0 X d
  show z_loop X z_cf z_ff (z_run X z_cf z_ff (d + 1)) 122 (99999999 + 1) 0 [(0, .int a0), (1, .int a1), (2, .int a2), (3, .int a3)] [] w = _
  rw [← hc]
  rw [z_pb_X_isDrive]
  unfold z_p_X_isDrive
  try simp only [z_n3, if_false]
  first
    | done
    | rfl
    | ((repeat' split) <;> rfl)
    | (simp only [z_b1_wi, z_b1_0, z_b1_1]; done)
    | ((repeat' split) <;> first | rfl | (simp only [z_b1_wi, z_b1_0, z_b1_1]; done))
set_option maxRecDepth 100000 in
theorem z_pb_X_isThickness (X : ZX) (call : ZC) (N : Nat) (w : ZW) (a0 : Int32) : z_loop X z_cf z_ff (z_pu0 call) 129 (N + 1) 0 [(0, .int a0)] [] w = z_gd (z_b1 (z_p_X_within a0 (Int32.ofInt 1) (Int32.ofInt 60000))) (some (.inl (some (.int (z_p_X_within a0 (Int32.ofInt 1) (Int32.ofInt 60000)))), w)) := rfl
theorem z_pp_X_isThickness (X : ZX) (d : Nat) (w : ZW) (a0 : Int32) : z_run X z_cf z_ff (d + 2) 129 [.int a0] w = some (.inl (some (.int (z_p_X_isThickness a0))), w) := by
  have hc : z_pu0 (z_run X z_cf z_ff (d + 1)) = z_run X z_cf z_ff (d + 1) := z_pe0 X d
  show z_loop X z_cf z_ff (z_run X z_cf z_ff (d + 1)) 129 (99999999 + 1) 0 [(0, .int a0)] [] w = _
  rw [← hc]
  rw [z_pb_X_isThickness]
  unfold z_p_X_isThickness
  try simp only [z_n3, if_false]
  first
    | done
    | rfl
    | ((repeat' split) <;> rfl)
    | (simp only [z_b1_wi, z_b1_0, z_b1_1]; done)
    | ((repeat' split) <;> first | rfl | (simp only [z_b1_wi, z_b1_0, z_b1_1]; done))
set_option maxRecDepth 100000 in
theorem z_pb_X_isHardness (X : ZX) (call : ZC) (N : Nat) (w : ZW) (a0 : Int32) : z_loop X z_cf z_ff (z_pu0 call) 130 (N + 1) 0 [(0, .int a0)] [] w = z_gd (z_b1 (z_p_X_within a0 (Int32.ofInt 1) (Int32.ofInt 99))) (some (.inl (some (.int (z_p_X_within a0 (Int32.ofInt 1) (Int32.ofInt 99)))), w)) := rfl
theorem z_pp_X_isHardness (X : ZX) (d : Nat) (w : ZW) (a0 : Int32) : z_run X z_cf z_ff (d + 2) 130 [.int a0] w = some (.inl (some (.int (z_p_X_isHardness a0))), w) := by
  have hc : z_pu0 (z_run X z_cf z_ff (d + 1)) = z_run X z_cf z_ff (d + 1) := z_pe0 X d
  show z_loop X z_cf z_ff (z_run X z_cf z_ff (d + 1)) 130 (99999999 + 1) 0 [(0, .int a0)] [] w = _
  rw [← hc]
  rw [z_pb_X_isHardness]
  unfold z_p_X_isHardness
  try simp only [z_n3, if_false]
  first
    | done
    | rfl
    | ((repeat' split) <;> rfl)
    | (simp only [z_b1_wi, z_b1_0, z_b1_1]; done)
    | ((repeat' split) <;> first | rfl | (simp only [z_b1_wi, z_b1_0, z_b1_1]; done))
theorem z_pe (X : ZX) (d : Nat) : z_pu (z_run X z_cf z_ff (d + 2)) = z_run X z_cf z_ff (d + 2) := by
  funext y av w
  show (match z_pd y av with | some v => (some (.inl (some v), w) : ZR) | none => z_run X z_cf z_ff (d + 2) y av w) = _
  split
  · rename_i v h
    rcases z_pc h with ⟨hb, h⟩ | ⟨hb, h⟩
    · rcases z_pc h with ⟨hb, h⟩ | ⟨hb, h⟩
      · rcases z_pc h with ⟨hb, h⟩ | ⟨hb, h⟩
        · rcases z_pc h with ⟨hb, h⟩ | ⟨hb, h⟩
          · rcases z_pc h with ⟨hb, h⟩ | ⟨hb, h⟩
            · have e := z_beq_t hb
              subst e
              unfold z_pq_Integer_bitCount at h
              split at h
              · cases h
                exact (z_pp_Integer_bitCount X (d + 1) w _).symm
              · cases h
            · cases h
          · rcases z_pc h with ⟨hb, h⟩ | ⟨hb, h⟩
            · rcases z_pc h with ⟨hb, h⟩ | ⟨hb, h⟩
              · have e := z_beq_t hb
                subst e
                unfold z_pq_Orders_indexOf at h
                split at h
                · cases h
                  exact (z_pp_Orders_indexOf X (d + 1) w _ _).symm
                · cases h
              · cases h
            · rcases z_pc h with ⟨hb, h⟩ | ⟨hb, h⟩
              · have e := z_beq_t hb
                subst e
                unfold z_pq_Orders_orderShift at h
                split at h
                · cases h
                  exact (z_pp_Orders_orderShift X (d + 1) w _).symm
                · cases h
              · cases h
        · rcases z_pc h with ⟨hb, h⟩ | ⟨hb, h⟩
          · rcases z_pc h with ⟨hb, h⟩ | ⟨hb, h⟩
            · have e := z_beq_t hb
              subst e
              unfold z_pq_Orders_changeShift at h
              split at h
              · cases h
                exact (z_pp_Orders_changeShift X (d + 1) w _).symm
              · cases h
            · cases h
          · rcases z_pc h with ⟨hb, h⟩ | ⟨hb, h⟩
            · rcases z_pc h with ⟨hb, h⟩ | ⟨hb, h⟩
              · have e := z_beq_t hb
                subst e
                unfold z_pq_Reader_isLetter at h
                split at h
                · cases h
                  exact (z_pp_Reader_isLetter X (d + 0) w _).symm
                · cases h
              · cases h
            · rcases z_pc h with ⟨hb, h⟩ | ⟨hb, h⟩
              · have e := z_beq_t hb
                subst e
                unfold z_pq_Reader_isDigit at h
                split at h
                · cases h
                  exact (z_pp_Reader_isDigit X (d + 0) w _).symm
                · cases h
              · cases h
      · rcases z_pc h with ⟨hb, h⟩ | ⟨hb, h⟩
        · rcases z_pc h with ⟨hb, h⟩ | ⟨hb, h⟩
          · rcases z_pc h with ⟨hb, h⟩ | ⟨hb, h⟩
            · have e := z_beq_t hb
              subst e
              unfold z_pq_Reader_isSign at h
              split at h
              · cases h
                exact (z_pp_Reader_isSign X (d + 0) w _).symm
              · cases h
            · cases h
          · rcases z_pc h with ⟨hb, h⟩ | ⟨hb, h⟩
            · rcases z_pc h with ⟨hb, h⟩ | ⟨hb, h⟩
              · have e := z_beq_t hb
                subst e
                unfold z_pq_Token_isWord at h
                split at h
                · cases h
                  exact (z_pp_Token_isWord X (d + 1) w _).symm
                · cases h
              · cases h
            · rcases z_pc h with ⟨hb, h⟩ | ⟨hb, h⟩
              · have e := z_beq_t hb
                subst e
                unfold z_pq_Token_isValue at h
                split at h
                · cases h
                  exact (z_pp_Token_isValue X (d + 0) w _).symm
                · cases h
              · cases h
        · rcases z_pc h with ⟨hb, h⟩ | ⟨hb, h⟩
          · rcases z_pc h with ⟨hb, h⟩ | ⟨hb, h⟩
            · have e := z_beq_t hb
              subst e
              unfold z_pq_Planner_pressIndex at h
              split at h
              · cases h
                exact (z_pp_Planner_pressIndex X (d + 1) w _ _ _).symm
              · cases h
            · cases h
          · rcases z_pc h with ⟨hb, h⟩ | ⟨hb, h⟩
            · rcases z_pc h with ⟨hb, h⟩ | ⟨hb, h⟩
              · have e := z_beq_t hb
                subst e
                unfold z_pq_X_isFrame at h
                split at h
                · cases h
                  exact (z_pp_X_isFrame X (d + 0) w _ _ _ _).symm
                · cases h
              · cases h
            · rcases z_pc h with ⟨hb, h⟩ | ⟨hb, h⟩
              · have e := z_beq_t hb
                subst e
                unfold z_pq_X_within at h
                split at h
                · cases h
                  exact (z_pp_X_within X (d + 1) w _ _ _).symm
                · cases h
              · cases h
    · rcases z_pc h with ⟨hb, h⟩ | ⟨hb, h⟩
      · rcases z_pc h with ⟨hb, h⟩ | ⟨hb, h⟩
        · rcases z_pc h with ⟨hb, h⟩ | ⟨hb, h⟩
          · rcases z_pc h with ⟨hb, h⟩ | ⟨hb, h⟩
            · have e := z_beq_t hb
              subst e
              unfold z_pq_X_isDrive at h
              split at h
              · cases h
                exact (z_pp_X_isDrive X (d + 0) w _ _ _ _).symm
              · cases h
            · cases h
          · rcases z_pc h with ⟨hb, h⟩ | ⟨hb, h⟩
            · rcases z_pc h with ⟨hb, h⟩ | ⟨hb, h⟩
              · have e := z_beq_t hb
                subst e
                unfold z_pq_X_isThickness at h
                split at h
                · cases h
                  exact (z_pp_X_isThickness X (d + 0) w _).symm
                · cases h
              · cases h
            · rcases z_pc h with ⟨hb, h⟩ | ⟨hb, h⟩
              · have e := z_beq_t hb
                subst e
                unfold z_pq_X_isHardness at h
                split at h
                · cases h
                  exact (z_pp_X_isHardness X (d + 0) w _).symm
                · cases h
              · cases h
        · rcases z_pc h with ⟨hb, h⟩ | ⟨hb, h⟩
          · rcases z_pc h with ⟨hb, h⟩ | ⟨hb, h⟩
            · have e := z_beq_t hb
              subst e
              unfold z_pq_X_placeOf at h
              split at h
              · cases h
                exact (z_pp_X_placeOf X (d + 1) w _ _ _ _ _).symm
              · cases h
            · cases h
          · rcases z_pc h with ⟨hb, h⟩ | ⟨hb, h⟩
            · rcases z_pc h with ⟨hb, h⟩ | ⟨hb, h⟩
              · have e := z_beq_t hb
                subst e
                unfold z_pq_M_within at h
                split at h
                · cases h
                  exact (z_pp_M_within X (d + 1) w _ _ _).symm
                · cases h
              · cases h
            · rcases z_pc h with ⟨hb, h⟩ | ⟨hb, h⟩
              · have e := z_beq_t hb
                subst e
                unfold z_pq_M_isHard at h
                split at h
                · cases h
                  exact (z_pp_M_isHard X (d + 1) w _).symm
                · cases h
              · cases h
      · rcases z_pc h with ⟨hb, h⟩ | ⟨hb, h⟩
        · rcases z_pc h with ⟨hb, h⟩ | ⟨hb, h⟩
          · rcases z_pc h with ⟨hb, h⟩ | ⟨hb, h⟩
            · have e := z_beq_t hb
              subst e
              unfold z_pq_M_isThick at h
              split at h
              · cases h
                exact (z_pp_M_isThick X (d + 1) w _).symm
              · cases h
            · cases h
          · rcases z_pc h with ⟨hb, h⟩ | ⟨hb, h⟩
            · rcases z_pc h with ⟨hb, h⟩ | ⟨hb, h⟩
              · have e := z_beq_t hb
                subst e
                unfold z_pq_M_isLetter at h
                split at h
                · cases h
                  exact (z_pp_M_isLetter X (d + 1) w _).symm
                · cases h
              · cases h
            · rcases z_pc h with ⟨hb, h⟩ | ⟨hb, h⟩
              · have e := z_beq_t hb
                subst e
                unfold z_pq_M_isDigit at h
                split at h
                · cases h
                  exact (z_pp_M_isDigit X (d + 1) w _).symm
                · cases h
              · cases h
        · rcases z_pc h with ⟨hb, h⟩ | ⟨hb, h⟩
          · rcases z_pc h with ⟨hb, h⟩ | ⟨hb, h⟩
            · rcases z_pc h with ⟨hb, h⟩ | ⟨hb, h⟩
              · have e := z_beq_t hb
                subst e
                unfold z_pq_M_spelled at h
                split at h
                · cases h
                  exact (z_pp_M_spelled X (d + 1) w _ _ _ _ _ _).symm
                · cases h
              · cases h
            · rcases z_pc h with ⟨hb, h⟩ | ⟨hb, h⟩
              · have e := z_beq_t hb
                subst e
                unfold z_pq_M_strength at h
                split at h
                · cases h
                  exact (z_pp_M_strength X (d + 1) w _).symm
                · cases h
              · cases h
          · rcases z_pc h with ⟨hb, h⟩ | ⟨hb, h⟩
            · rcases z_pc h with ⟨hb, h⟩ | ⟨hb, h⟩
              · have e := z_beq_t hb
                subst e
                unfold z_pq_M_markAt at h
                split at h
                · cases h
                  exact (z_pp_M_markAt X (d + 1) w _ _ _ _ _).symm
                · cases h
              · cases h
            · rcases z_pc h with ⟨hb, h⟩ | ⟨hb, h⟩
              · have e := z_beq_t hb
                subst e
                unfold z_pq_M_at at h
                split at h
                · cases h
                  exact (z_pp_M_at X (d + 1) w _ _ _).symm
                · cases h
              · cases h
  · rfl
