/-! WHAT THE INSTRUCTIONS' NUMBERS SAY IS RIGHT: by a function that decides it -/
/-- the words of the tables that a call may carry -/
def z_G : List Cond := lw_tbl.filter goodWord
def z_tab (k : Nat) : List Cond := match k with
  | 0 => k2_sels lw_privs
  | 1 => tables_1_1
  | 2 => tables_1_2
  | 3 => tables_1_3
  | _ => []
theorem z_tab_in {k : Nat} {w : Cond} (h : w ∈ z_tab k) : w ∈ lw_tbl := by
  unfold z_tab at h
  split at h <;> simp only [lw_tbl, tables_1, List.mem_append] <;> first | exact Or.inl h | (refine Or.inr ?_; simp only [h, true_or, or_true]) | exact absurd h List.not_mem_nil
def z_wp (ps : List Nat) (j : Nat) (w : Cond) : Bool := decide ((z_tab (ps.getD j 100000 / 1000))[ps.getD j 100000 % 1000]? = some w) && goodWord w
theorem z_wp_in {ps : List Nat} {j : Nat} {w : Cond} (h : z_wp ps j w = true) : w ∈ z_G := by
  simp only [z_wp, Bool.and_eq_true, decide_eq_true_eq] at h
  exact List.mem_filter.mpr ⟨z_tab_in (List.mem_of_getElem? h.1), h.2⟩
theorem z_G_good : ∀ w ∈ z_G, (w.onTables && w.keeps) = true ∨ ∃ ty, w = .arrayClass ty := fun _ h => good_of_word (List.mem_filter.mp h).2
theorem z_G_tbl : ∀ w ∈ z_G, w ∈ lw_tbl := fun _ h => (List.mem_filter.mp h).1
/-- words that a call carries in another way -/
def z_bk (w : Cond) : Bool := match w with
  | .fieldLinkNest _ _ _ _ _ _ => true
  | .methodLinkNest _ _ _ _ => true
  | .castable _ _ => true
  | .declares _ => true
  | .arrayOver (.object _) => true
  | _ => false
def z_B : List Cond := lw_tbl.filter z_bk
def z_wb (ps : List Nat) (j : Nat) (w : Cond) : Bool := decide ((z_tab (ps.getD j 100000 / 1000))[ps.getD j 100000 % 1000]? = some w) && z_bk w
theorem z_wb_in {ps : List Nat} {j : Nat} {w : Cond} (h : z_wb ps j w = true) : w ∈ z_B := by
  simp only [z_wb, Bool.and_eq_true, decide_eq_true_eq] at h
  exact List.mem_filter.mpr ⟨z_tab_in (List.mem_of_getElem? h.1), h.2⟩
theorem z_B_tbl : ∀ w ∈ z_B, w ∈ lw_tbl := fun _ h => (List.mem_filter.mp h).1
def z_xn (E : Nat) : String := if E = 0 then "java/util/NoSuchElementException" else "java/lang/IllegalArgumentException"
/-- the methods of the data -/
def z_mn2 (y : Nat) : MethodName := z_mn y
def z_cw (y : Nat) : Cond := if z_mh y = [] then .code (z_mn y) (z_mb y) (z_ml y) (z_mr y) else .codeWith (z_mn y) (z_mb y) (z_ml y) (z_mr y) (z_hw y)
abbrev z_own (y : Nat) : String := (z_mn y).cls
def z_nargs (y n : Nat) : Bool := decide ((z_mn2 y).cls ≠ "java/lang/invoke/MethodHandle" ∧ (z_mn2 y).cls ≠ "java/lang/invoke/VarHandle" ∧ (parseMethodDescriptor (z_mn2 y).desc).map (fun d => d.parameters.length) = some n)
/-- which kind of answer: 0 none, 1 an int, 2 a long, 3 a reference -/
def z_rk : Option FieldType → Nat
  | none => 0
  | some .int => 1
  | some .boolean => 1
  | some .char => 1
  | some .long => 2
  | some (.object _) => 3
  | some (.array _) => 3
  | _ => 9
def z_mr2 (y : Nat) : Option FieldType := z_mr y
def z_k_aconst_null (y pc len a b c d : Nat) (n : Int) (ts : List (Int × Nat)) (ins : Instr) (ps : List Nat) : Bool := decide (ins = .aconst_null) && Nat.beq len 1
def z_k_iconst (y pc len a b c d : Nat) (n : Int) (ts : List (Int × Nat)) (ins : Instr) (ps : List Nat) : Bool := (decide (ins = .iconst n) && Nat.beq len 1) || (decide (ins = .bipush n) && Nat.beq len 2 && decide ((Int8.ofInt n).toInt32 = Int32.ofInt n)) || (decide (ins = .sipush n) && Nat.beq len 3 && decide ((Int16.ofInt n).toInt32 = Int32.ofInt n)) || (decide (ins = .ldc a) && Nat.beq len 2 && z_wp ps 0 (.constant (z_own y) a (Int32.ofInt n))) || (decide (ins = .ldc_w a) && Nat.beq len 3 && z_wp ps 0 (.constant (z_own y) a (Int32.ofInt n)))
def z_k_newarrayD (y pc len a b c d : Nat) (n : Int) (ts : List (Int × Nat)) (ins : Instr) (ps : List Nat) : Bool := decide (ins = .newarray .int) && Nat.beq len 2 && z_wp ps 0 (.arrayClass .int)
def z_k_lconst (y pc len a b c d : Nat) (n : Int) (ts : List (Int × Nat)) (ins : Instr) (ps : List Nat) : Bool := (decide (ins = .lconst 0 ∧ n = 0) && Nat.beq len 1) || (decide (ins = .lconst 1 ∧ n = 1) && Nat.beq len 1) || (decide (ins = .ldc2_w a) && Nat.beq len 3 && z_wp ps 0 (.constantLong (z_own y) a (Int64.ofInt n)))
def z_k_iload (y pc len a b c d : Nat) (n : Int) (ts : List (Int × Nat)) (ins : Instr) (ps : List Nat) : Bool := (decide (ins = .iload a) && Nat.beq len 2) || (Nat.blt a 4 && decide (ins = .iload_n (Fin.ofNat 4 a)) && Nat.beq len 1)
def z_k_lload (y pc len a b c d : Nat) (n : Int) (ts : List (Int × Nat)) (ins : Instr) (ps : List Nat) : Bool := (decide (ins = .lload a) && Nat.beq len 2) || (Nat.blt a 4 && decide (ins = .lload_n (Fin.ofNat 4 a)) && Nat.beq len 1)
def z_k_aload (y pc len a b c d : Nat) (n : Int) (ts : List (Int × Nat)) (ins : Instr) (ps : List Nat) : Bool := (decide (ins = .aload a) && Nat.beq len 2) || (Nat.blt a 4 && decide (ins = .aload_n (Fin.ofNat 4 a)) && Nat.beq len 1)
def z_k_istore (y pc len a b c d : Nat) (n : Int) (ts : List (Int × Nat)) (ins : Instr) (ps : List Nat) : Bool := Nat.blt a (z_ml y) && ((decide (ins = .istore a) && Nat.beq len 2) || (Nat.blt a 4 && decide (ins = .istore_n (Fin.ofNat 4 a)) && Nat.beq len 1))
def z_k_lstore (y pc len a b c d : Nat) (n : Int) (ts : List (Int × Nat)) (ins : Instr) (ps : List Nat) : Bool := Nat.blt (a + 1) (z_ml y) && ((decide (ins = .lstore a) && Nat.beq len 2) || (Nat.blt a 4 && decide (ins = .lstore_n (Fin.ofNat 4 a)) && Nat.beq len 1))
def z_k_astore (y pc len a b c d : Nat) (n : Int) (ts : List (Int × Nat)) (ins : Instr) (ps : List Nat) : Bool := Nat.blt a (z_ml y) && ((decide (ins = .astore a) && Nat.beq len 2) || (Nat.blt a 4 && decide (ins = .astore_n (Fin.ofNat 4 a)) && Nat.beq len 1))
def z_k_iinc (y pc len a b c d : Nat) (n : Int) (ts : List (Int × Nat)) (ins : Instr) (ps : List Nat) : Bool := decide (ins = .iinc a n) && Nat.beq len 3 && Nat.blt a (z_ml y)
def z_k_iadd (y pc len a b c d : Nat) (n : Int) (ts : List (Int × Nat)) (ins : Instr) (ps : List Nat) : Bool := decide (ins = .iadd) && Nat.beq len 1
def z_k_isub (y pc len a b c d : Nat) (n : Int) (ts : List (Int × Nat)) (ins : Instr) (ps : List Nat) : Bool := decide (ins = .isub) && Nat.beq len 1
def z_k_imul (y pc len a b c d : Nat) (n : Int) (ts : List (Int × Nat)) (ins : Instr) (ps : List Nat) : Bool := decide (ins = .imul) && Nat.beq len 1
def z_k_idiv (y pc len a b c d : Nat) (n : Int) (ts : List (Int × Nat)) (ins : Instr) (ps : List Nat) : Bool := decide (ins = .idiv) && Nat.beq len 1
def z_k_irem (y pc len a b c d : Nat) (n : Int) (ts : List (Int × Nat)) (ins : Instr) (ps : List Nat) : Bool := decide (ins = .irem) && Nat.beq len 1
def z_k_ineg (y pc len a b c d : Nat) (n : Int) (ts : List (Int × Nat)) (ins : Instr) (ps : List Nat) : Bool := decide (ins = .ineg) && Nat.beq len 1
def z_k_iand (y pc len a b c d : Nat) (n : Int) (ts : List (Int × Nat)) (ins : Instr) (ps : List Nat) : Bool := decide (ins = .iand) && Nat.beq len 1
def z_k_ior (y pc len a b c d : Nat) (n : Int) (ts : List (Int × Nat)) (ins : Instr) (ps : List Nat) : Bool := decide (ins = .ior) && Nat.beq len 1
def z_k_ixor (y pc len a b c d : Nat) (n : Int) (ts : List (Int × Nat)) (ins : Instr) (ps : List Nat) : Bool := decide (ins = .ixor) && Nat.beq len 1
def z_k_ishl (y pc len a b c d : Nat) (n : Int) (ts : List (Int × Nat)) (ins : Instr) (ps : List Nat) : Bool := decide (ins = .ishl) && Nat.beq len 1
def z_k_ishr (y pc len a b c d : Nat) (n : Int) (ts : List (Int × Nat)) (ins : Instr) (ps : List Nat) : Bool := decide (ins = .ishr) && Nat.beq len 1
def z_k_iushr (y pc len a b c d : Nat) (n : Int) (ts : List (Int × Nat)) (ins : Instr) (ps : List Nat) : Bool := decide (ins = .iushr) && Nat.beq len 1
def z_k_ladd (y pc len a b c d : Nat) (n : Int) (ts : List (Int × Nat)) (ins : Instr) (ps : List Nat) : Bool := decide (ins = .ladd) && Nat.beq len 1
def z_k_lsub (y pc len a b c d : Nat) (n : Int) (ts : List (Int × Nat)) (ins : Instr) (ps : List Nat) : Bool := decide (ins = .lsub) && Nat.beq len 1
def z_k_lmul (y pc len a b c d : Nat) (n : Int) (ts : List (Int × Nat)) (ins : Instr) (ps : List Nat) : Bool := decide (ins = .lmul) && Nat.beq len 1
def z_k_ldiv (y pc len a b c d : Nat) (n : Int) (ts : List (Int × Nat)) (ins : Instr) (ps : List Nat) : Bool := decide (ins = .ldiv) && Nat.beq len 1
def z_k_lneg (y pc len a b c d : Nat) (n : Int) (ts : List (Int × Nat)) (ins : Instr) (ps : List Nat) : Bool := decide (ins = .lneg) && Nat.beq len 1
def z_k_land (y pc len a b c d : Nat) (n : Int) (ts : List (Int × Nat)) (ins : Instr) (ps : List Nat) : Bool := decide (ins = .land) && Nat.beq len 1
def z_k_lor (y pc len a b c d : Nat) (n : Int) (ts : List (Int × Nat)) (ins : Instr) (ps : List Nat) : Bool := decide (ins = .lor) && Nat.beq len 1
def z_k_lshl (y pc len a b c d : Nat) (n : Int) (ts : List (Int × Nat)) (ins : Instr) (ps : List Nat) : Bool := decide (ins = .lshl) && Nat.beq len 1
def z_k_lshr (y pc len a b c d : Nat) (n : Int) (ts : List (Int × Nat)) (ins : Instr) (ps : List Nat) : Bool := decide (ins = .lshr) && Nat.beq len 1
def z_k_lushr (y pc len a b c d : Nat) (n : Int) (ts : List (Int × Nat)) (ins : Instr) (ps : List Nat) : Bool := decide (ins = .lushr) && Nat.beq len 1
def z_k_lcmp (y pc len a b c d : Nat) (n : Int) (ts : List (Int × Nat)) (ins : Instr) (ps : List Nat) : Bool := decide (ins = .lcmp) && Nat.beq len 1
def z_k_i2l (y pc len a b c d : Nat) (n : Int) (ts : List (Int × Nat)) (ins : Instr) (ps : List Nat) : Bool := decide (ins = .i2l) && Nat.beq len 1
def z_k_l2i (y pc len a b c d : Nat) (n : Int) (ts : List (Int × Nat)) (ins : Instr) (ps : List Nat) : Bool := decide (ins = .l2i) && Nat.beq len 1
def z_k_dup (y pc len a b c d : Nat) (n : Int) (ts : List (Int × Nat)) (ins : Instr) (ps : List Nat) : Bool := decide (ins = .dup) && Nat.beq len 1
def z_k_dup2 (y pc len a b c d : Nat) (n : Int) (ts : List (Int × Nat)) (ins : Instr) (ps : List Nat) : Bool := decide (ins = .dup2) && Nat.beq len 1
def z_k_dup_x1 (y pc len a b c d : Nat) (n : Int) (ts : List (Int × Nat)) (ins : Instr) (ps : List Nat) : Bool := decide (ins = .dup_x1) && Nat.beq len 1
def z_k_pop (y pc len a b c d : Nat) (n : Int) (ts : List (Int × Nat)) (ins : Instr) (ps : List Nat) : Bool := decide (ins = .pop) && Nat.beq len 1
def z_k_goto (y pc len a b c d : Nat) (n : Int) (ts : List (Int × Nat)) (ins : Instr) (ps : List Nat) : Bool := decide (ins = .goto ((a : Int) - (pc : Int))) && Nat.beq len 3
def z_k_ifeq (y pc len a b c d : Nat) (n : Int) (ts : List (Int × Nat)) (ins : Instr) (ps : List Nat) : Bool := decide (ins = .ifCond .eq ((a : Int) - (pc : Int))) && Nat.beq len 3
def z_k_ifne (y pc len a b c d : Nat) (n : Int) (ts : List (Int × Nat)) (ins : Instr) (ps : List Nat) : Bool := decide (ins = .ifCond .ne ((a : Int) - (pc : Int))) && Nat.beq len 3
def z_k_iflt (y pc len a b c d : Nat) (n : Int) (ts : List (Int × Nat)) (ins : Instr) (ps : List Nat) : Bool := decide (ins = .ifCond .lt ((a : Int) - (pc : Int))) && Nat.beq len 3
def z_k_ifge (y pc len a b c d : Nat) (n : Int) (ts : List (Int × Nat)) (ins : Instr) (ps : List Nat) : Bool := decide (ins = .ifCond .ge ((a : Int) - (pc : Int))) && Nat.beq len 3
def z_k_ifgt (y pc len a b c d : Nat) (n : Int) (ts : List (Int × Nat)) (ins : Instr) (ps : List Nat) : Bool := decide (ins = .ifCond .gt ((a : Int) - (pc : Int))) && Nat.beq len 3
def z_k_ifle (y pc len a b c d : Nat) (n : Int) (ts : List (Int × Nat)) (ins : Instr) (ps : List Nat) : Bool := decide (ins = .ifCond .le ((a : Int) - (pc : Int))) && Nat.beq len 3
def z_k_icmpeq (y pc len a b c d : Nat) (n : Int) (ts : List (Int × Nat)) (ins : Instr) (ps : List Nat) : Bool := decide (ins = .if_icmp .eq ((a : Int) - (pc : Int))) && Nat.beq len 3
def z_k_icmpne (y pc len a b c d : Nat) (n : Int) (ts : List (Int × Nat)) (ins : Instr) (ps : List Nat) : Bool := decide (ins = .if_icmp .ne ((a : Int) - (pc : Int))) && Nat.beq len 3
def z_k_icmplt (y pc len a b c d : Nat) (n : Int) (ts : List (Int × Nat)) (ins : Instr) (ps : List Nat) : Bool := decide (ins = .if_icmp .lt ((a : Int) - (pc : Int))) && Nat.beq len 3
def z_k_icmpge (y pc len a b c d : Nat) (n : Int) (ts : List (Int × Nat)) (ins : Instr) (ps : List Nat) : Bool := decide (ins = .if_icmp .ge ((a : Int) - (pc : Int))) && Nat.beq len 3
def z_k_icmpgt (y pc len a b c d : Nat) (n : Int) (ts : List (Int × Nat)) (ins : Instr) (ps : List Nat) : Bool := decide (ins = .if_icmp .gt ((a : Int) - (pc : Int))) && Nat.beq len 3
def z_k_icmple (y pc len a b c d : Nat) (n : Int) (ts : List (Int × Nat)) (ins : Instr) (ps : List Nat) : Bool := decide (ins = .if_icmp .le ((a : Int) - (pc : Int))) && Nat.beq len 3
def z_k_acmpeq (y pc len a b c d : Nat) (n : Int) (ts : List (Int × Nat)) (ins : Instr) (ps : List Nat) : Bool := decide (ins = .if_acmp .eq ((a : Int) - (pc : Int))) && Nat.beq len 3
def z_k_switch (y pc len a b c d : Nat) (n : Int) (ts : List (Int × Nat)) (ins : Instr) (ps : List Nat) : Bool := (decide (ins = .tableswitch ((a : Int) - (pc : Int)) n (n + (ts.length : Int) - 1) (ts.map (fun q => (q.2 : Int) - (pc : Int))).toArray ∧ ts.map (fun q => q.1) = (List.range ts.length).map (fun (j : Nat) => n + (j : Int)) ∧ -1000000 ≤ n ∧ n ≤ 1000000 ∧ ts.length ≤ 1000)) || (decide (ins = .lookupswitch ((a : Int) - (pc : Int)) (ts.map (fun q => (q.1, (q.2 : Int) - (pc : Int)))).toArray) && (ts.zip (ts.drop 1)).all (fun q => decide (q.1.1 < q.2.1)) && ts.all (fun q => decide (-1000000 ≤ q.1 ∧ q.1 ≤ 1000000)))
def z_k_getfield (y pc len a b c d : Nat) (n : Int) (ts : List (Int × Nat)) (ins : Instr) (ps : List Nat) : Bool := decide (ins = .getfield d) && Nat.beq len 3 && Nat.blt a 12 && Nat.blt b (z_N a) && Nat.beq c (z_tc a b) && ((z_wp ps 0 (.fieldLink (z_own y) d (z_T a b).1 (z_T a b).2.1 (z_T a b).2.2.1)) || (z_wb ps 0 (.fieldLinkNest (z_own y) d (z_T a b).1 (z_T a b).2.1 (z_T a b).2.2.1 "RollMill")) || (z_wp ps 0 (.fieldLink (z_own y) d (z_C a) (z_T a b).2.1 (z_T a b).2.2.1) && z_wp ps 1 (.sameField (z_C a) (z_T a b).1 (z_T a b).2.1 (z_T a b).2.2.1)))
def z_k_putfield (y pc len a b c d : Nat) (n : Int) (ts : List (Int × Nat)) (ins : Instr) (ps : List Nat) : Bool := decide (ins = .putfield d) && Nat.beq len 3 && Nat.blt a 12 && Nat.blt b (z_N a) && Nat.beq c (z_tc a b) && ((z_wp ps 0 (.fieldLink (z_own y) d (z_T a b).1 (z_T a b).2.1 (z_T a b).2.2.1)) || (z_wb ps 0 (.fieldLinkNest (z_own y) d (z_T a b).1 (z_T a b).2.1 (z_T a b).2.2.1 "RollMill")) || (z_wp ps 0 (.fieldLink (z_own y) d (z_C a) (z_T a b).2.1 (z_T a b).2.2.1) && z_wp ps 1 (.sameField (z_C a) (z_T a b).1 (z_T a b).2.1 (z_T a b).2.2.1))) && (decide ((z_T a b).2.2.2 = false) || (decide ((z_mn y).name = "<init>" ∧ (z_T a b).1 = z_own y) && z_wp ps 0 (.fieldLink (z_own y) d (z_T a b).1 (z_T a b).2.1 (z_T a b).2.2.1)))
def z_k_getstatic (y pc len a b c d : Nat) (n : Int) (ts : List (Int × Nat)) (ins : Instr) (ps : List Nat) : Bool := decide (ins = .getstatic d) && Nat.beq len 3 && ((Nat.beq a 1000 && z_wp ps 0 (.fieldLink (z_own y) d "RollMill" "BEND" "[I")) || (Nat.beq a 1003 && z_wp ps 0 (.fieldLink (z_own y) d "java/util/ArrayList" "DEFAULTCAPACITY_EMPTY_ELEMENTDATA" "[Ljava/lang/Object;")))
def z_k_iaload (y pc len a b c d : Nat) (n : Int) (ts : List (Int × Nat)) (ins : Instr) (ps : List Nat) : Bool := decide (ins = .iaload) && Nat.beq len 1
def z_k_baload (y pc len a b c d : Nat) (n : Int) (ts : List (Int × Nat)) (ins : Instr) (ps : List Nat) : Bool := decide (ins = .baload) && Nat.beq len 1
def z_k_laload (y pc len a b c d : Nat) (n : Int) (ts : List (Int × Nat)) (ins : Instr) (ps : List Nat) : Bool := decide (ins = .laload) && Nat.beq len 1
def z_k_aaload (y pc len a b c d : Nat) (n : Int) (ts : List (Int × Nat)) (ins : Instr) (ps : List Nat) : Bool := decide (ins = .aaload) && Nat.beq len 1
def z_k_iastore (y pc len a b c d : Nat) (n : Int) (ts : List (Int × Nat)) (ins : Instr) (ps : List Nat) : Bool := decide (ins = .iastore) && Nat.beq len 1
def z_k_bastore (y pc len a b c d : Nat) (n : Int) (ts : List (Int × Nat)) (ins : Instr) (ps : List Nat) : Bool := decide (ins = .bastore) && Nat.beq len 1
def z_k_lastore (y pc len a b c d : Nat) (n : Int) (ts : List (Int × Nat)) (ins : Instr) (ps : List Nat) : Bool := decide (ins = .lastore) && Nat.beq len 1
def z_k_aastore (y pc len a b c d : Nat) (n : Int) (ts : List (Int × Nat)) (ins : Instr) (ps : List Nat) : Bool := decide (ins = .aastore) && Nat.beq len 1 && z_wb ps 0 (.castable "RollMill$Stand" "java/lang/Object")
def z_k_arraylength (y pc len a b c d : Nat) (n : Int) (ts : List (Int × Nat)) (ins : Instr) (ps : List Nat) : Bool := decide (ins = .arraylength) && Nat.beq len 1
def z_k_checkcast (y pc len a b c d : Nat) (n : Int) (ts : List (Int × Nat)) (ins : Instr) (ps : List Nat) : Bool := decide (ins = .checkcast d) && Nat.beq len 3 && Nat.beq a 10 && z_wp ps 0 (.classLink (z_own y) d (z_C a))
def z_k_throw (y pc len a b c d : Nat) (n : Int) (ts : List (Int × Nat)) (ins : Instr) (ps : List Nat) : Bool := false
def z_k_new (y pc len a b c d : Nat) (n : Int) (ts : List (Int × Nat)) (ins : Instr) (ps : List Nat) : Bool := decide (ins = .new d) && Nat.beq len 3 && Nat.blt a 12 && Nat.beq c (z_N a) && z_wp ps 0 (.classLink (z_own y) d (z_C a)) && z_wp ps 1 (.instantiable (z_C a) (z_N a)) && z_wp ps 2 (.initialized (z_C a))
def z_k_newarray (y pc len a b c d : Nat) (n : Int) (ts : List (Int × Nat)) (ins : Instr) (ps : List Nat) : Bool := Nat.beq len 2 && decide (n = (b : Int) ∧ b ≤ 50000) && ((decide (ins = .newarray .int ∧ a = 20) && z_wp ps 0 (.arrayClass .int)) || (decide (ins = .newarray .long ∧ a = 21) && z_wp ps 0 (.arrayClass .long)))
def z_k_anewarray (y pc len a b c d : Nat) (n : Int) (ts : List (Int × Nat)) (ins : Instr) (ps : List Nat) : Bool := decide (ins = .anewarray d) && Nat.beq len 3 && z_wp ps 0 (.classLink (z_own y) d "java/lang/Object") && z_wb ps 1 (.arrayOver (.object "java/lang/Object"))
def z_k_arraycopy (y pc len a b c d : Nat) (n : Int) (ts : List (Int × Nat)) (ins : Instr) (ps : List Nat) : Bool := false
def z_k_invokestatic (y pc len a b c d : Nat) (n : Int) (ts : List (Int × Nat)) (ins : Instr) (ps : List Nat) : Bool := decide (ins = .invokestatic n.toNat) && Nat.beq len 3 && Nat.blt a 56 && z_nargs a c && Nat.beq d (z_rk (z_mr a)) && (z_wp ps 0 (.methodLink (z_own y) n.toNat (z_mn a)) || z_wb ps 0 (.methodLinkNest (z_own y) n.toNat (z_mn a) "RollMill")) && z_wp ps 1 (.static (z_mn a)) && z_wp ps 2 (.initialized (z_mn a).cls) && z_wp ps 3 (z_cw a) && (decide (z_mh a = []) || z_wp ps 0 (.methodLink (z_own y) n.toNat (z_mn a)))
def z_k_invokevirtual (y pc len a b c d : Nat) (n : Int) (ts : List (Int × Nat)) (ins : Instr) (ps : List Nat) : Bool := decide (ins = .invokevirtual n.toNat) && Nat.beq len 3 && Nat.blt a 56 && z_nargs a c && Nat.beq d (z_rk (z_mr a)) && (z_wp ps 0 (.methodLink (z_own y) n.toNat (z_mn a)) || z_wb ps 0 (.methodLinkNest (z_own y) n.toNat (z_mn a) "RollMill")) && z_wp ps 1 (.instanceMethod (z_mn a)) && z_wp ps 2 (.selects (z_mn a).cls (z_mn a) (z_mn a)) && z_wp ps 3 (.initialized (z_mn a).cls) && z_wp ps 4 (z_cw a) && Nat.blt b 12 && decide (z_C b = (z_mn a).cls ∧ z_mh a = [])
def z_k_objinit (y pc len a b c d : Nat) (n : Int) (ts : List (Int × Nat)) (ins : Instr) (ps : List Nat) : Bool := decide (ins = .invokespecial n.toNat) && Nat.beq len 3 && z_wp ps 0 (.methodLink (z_own y) n.toNat Lib.objectInit) && z_wp ps 1 (.instanceMethod Lib.objectInit) && z_wp ps 2 (.code Lib.objectInit ⟨#[0xb1]⟩ 1 none)
def z_k_invokespecial (y pc len a b c d : Nat) (n : Int) (ts : List (Int × Nat)) (ins : Instr) (ps : List Nat) : Bool := decide (ins = .invokespecial n.toNat) && Nat.beq len 3 && Nat.blt a 56 && z_nargs a c && Nat.beq d (z_rk (z_mr a)) && (z_wp ps 0 (.methodLink (z_own y) n.toNat (z_mn a)) || z_wb ps 0 (.methodLinkNest (z_own y) n.toNat (z_mn a) "RollMill")) && z_wp ps 1 (.instanceMethod (z_mn a)) && z_wp ps 2 (.initialized (z_mn a).cls) && z_wp ps 3 (z_cw a) && decide ((z_mn a).name = "<init>" ∧ z_mh a = [] ∧ z_mr a = none)
def z_k_ireturn (y pc len a b c d : Nat) (n : Int) (ts : List (Int × Nat)) (ins : Instr) (ps : List Nat) : Bool := decide (ins = .ireturn ∧ z_mr y = some .int) && Nat.beq len 1
def z_k_zreturn (y pc len a b c d : Nat) (n : Int) (ts : List (Int × Nat)) (ins : Instr) (ps : List Nat) : Bool := decide (ins = .ireturn ∧ z_mr y = some .boolean) && Nat.beq len 1
def z_k_lreturn (y pc len a b c d : Nat) (n : Int) (ts : List (Int × Nat)) (ins : Instr) (ps : List Nat) : Bool := decide (ins = .lreturn ∧ z_mr y = some .long) && Nat.beq len 1
def z_k_areturn (y pc len a b c d : Nat) (n : Int) (ts : List (Int × Nat)) (ins : Instr) (ps : List Nat) : Bool := decide (ins = .areturn) && Nat.beq len 1 && Nat.beq (z_rk (z_mr y)) 3
def z_k_return_ (y pc len a b c d : Nat) (n : Int) (ts : List (Int × Nat)) (ins : Instr) (ps : List Nat) : Bool := decide (ins = .return_ ∧ z_mr y = none) && Nat.beq len 1
def z_k_strcall (y pc len a b c d : Nat) (n : Int) (ts : List (Int × Nat)) (ins : Instr) (ps : List Nat) : Bool := false
def z_k_scriptload (y pc len a b c d : Nat) (n : Int) (ts : List (Int × Nat)) (ins : Instr) (ps : List Nat) : Bool := decide (ins = .iaload) && Nat.beq len 1
def z_k_bendload (y pc len a b c d : Nat) (n : Int) (ts : List (Int × Nat)) (ins : Instr) (ps : List Nat) : Bool := decide (ins = .iaload) && Nat.beq len 1
def z_k_scriptlen (y pc len a b c d : Nat) (n : Int) (ts : List (Int × Nat)) (ins : Instr) (ps : List Nat) : Bool := decide (ins = .arraylength) && Nat.beq len 1
def z_k_mmaxi (y pc len a b c d : Nat) (n : Int) (ts : List (Int × Nat)) (ins : Instr) (ps : List Nat) : Bool := decide (ins = .invokestatic n.toNat) && Nat.beq len 3 && z_wp ps 0 (.methodLink (z_own y) n.toNat Lib.Math.max.name) && z_wp ps 1 (.static Lib.Math.max.name) && z_wp ps 2 (.initialized "java/lang/Math") && z_wp ps 3 (.code Lib.Math.max.name Lib.Math.max.code 2 (some .int))
def z_k_mmini (y pc len a b c d : Nat) (n : Int) (ts : List (Int × Nat)) (ins : Instr) (ps : List Nat) : Bool := decide (ins = .invokestatic n.toNat) && Nat.beq len 3 && z_wp ps 0 (.methodLink (z_own y) n.toNat Lib.Math.min.name) && z_wp ps 1 (.static Lib.Math.min.name) && z_wp ps 2 (.initialized "java/lang/Math") && z_wp ps 3 (.code Lib.Math.min.name Lib.Math.min.code 2 (some .int))
def z_k_mabsi (y pc len a b c d : Nat) (n : Int) (ts : List (Int × Nat)) (ins : Instr) (ps : List Nat) : Bool := decide (ins = .invokestatic n.toNat) && Nat.beq len 3 && z_wp ps 0 (.methodLink (z_own y) n.toNat Lib.Math.abs.name) && z_wp ps 1 (.static Lib.Math.abs.name) && z_wp ps 2 (.initialized "java/lang/Math") && z_wp ps 3 (.code Lib.Math.abs.name Lib.Math.abs.code 1 (some .int))
def z_k_mmaxl (y pc len a b c d : Nat) (n : Int) (ts : List (Int × Nat)) (ins : Instr) (ps : List Nat) : Bool := decide (ins = .invokestatic n.toNat) && Nat.beq len 3 && z_wp ps 0 (.methodLink (z_own y) n.toNat Lib.MathLoose.max_long.x) && z_wp ps 1 (.static Lib.MathLoose.max_long.x) && z_wp ps 2 (.initialized "java/lang/Math") && z_wp ps 3 (.code Lib.MathLoose.max_long.x Lib.MathLoose.max_long.code 4 (some .long))
def z_k_mminl (y pc len a b c d : Nat) (n : Int) (ts : List (Int × Nat)) (ins : Instr) (ps : List Nat) : Bool := decide (ins = .invokestatic n.toNat) && Nat.beq len 3 && z_wp ps 0 (.methodLink (z_own y) n.toNat Lib.MathLoose.min_long.x) && z_wp ps 1 (.static Lib.MathLoose.min_long.x) && z_wp ps 2 (.initialized "java/lang/Math") && z_wp ps 3 (.code Lib.MathLoose.min_long.x Lib.MathLoose.min_long.code 4 (some .long))
def z_k_mabsl (y pc len a b c d : Nat) (n : Int) (ts : List (Int × Nat)) (ins : Instr) (ps : List Nat) : Bool := decide (ins = .invokestatic n.toNat) && Nat.beq len 3 && z_wp ps 0 (.methodLink (z_own y) n.toNat Lib.MathLoose.abs_long.x) && z_wp ps 1 (.static Lib.MathLoose.abs_long.x) && z_wp ps 2 (.initialized "java/lang/Math") && z_wp ps 3 (.code Lib.MathLoose.abs_long.x Lib.MathLoose.abs_long.code 2 (some .long))
def z_k_dead (y pc len a b c d : Nat) (n : Int) (ts : List (Int × Nat)) (ins : Instr) (ps : List Nat) : Bool := true
def z_ke (y pc o len a b c d : Nat) (n : Int) (ts : List (Int × Nat)) (ins : Instr) (ps : List Nat) : Bool := z_c (Nat.blt o 46) (z_c (Nat.blt o 23) (z_c (Nat.blt o 11) (z_c (Nat.blt o 5) (z_c (Nat.blt o 2) (z_c (Nat.blt o 1) (z_k_aconst_null y pc len a b c d n ts ins ps) (z_k_iconst y pc len a b c d n ts ins ps)) (z_c (Nat.blt o 3) (z_k_newarrayD y pc len a b c d n ts ins ps) (z_c (Nat.blt o 4) (z_k_lconst y pc len a b c d n ts ins ps) (z_k_iload y pc len a b c d n ts ins ps)))) (z_c (Nat.blt o 8) (z_c (Nat.blt o 6) (z_k_lload y pc len a b c d n ts ins ps) (z_c (Nat.blt o 7) (z_k_aload y pc len a b c d n ts ins ps) (z_k_istore y pc len a b c d n ts ins ps))) (z_c (Nat.blt o 9) (z_k_lstore y pc len a b c d n ts ins ps) (z_c (Nat.blt o 10) (z_k_astore y pc len a b c d n ts ins ps) (z_k_iinc y pc len a b c d n ts ins ps))))) (z_c (Nat.blt o 17) (z_c (Nat.blt o 14) (z_c (Nat.blt o 12) (z_k_iadd y pc len a b c d n ts ins ps) (z_c (Nat.blt o 13) (z_k_isub y pc len a b c d n ts ins ps) (z_k_imul y pc len a b c d n ts ins ps))) (z_c (Nat.blt o 15) (z_k_idiv y pc len a b c d n ts ins ps) (z_c (Nat.blt o 16) (z_k_irem y pc len a b c d n ts ins ps) (z_k_ineg y pc len a b c d n ts ins ps)))) (z_c (Nat.blt o 20) (z_c (Nat.blt o 18) (z_k_iand y pc len a b c d n ts ins ps) (z_c (Nat.blt o 19) (z_k_ior y pc len a b c d n ts ins ps) (z_k_ixor y pc len a b c d n ts ins ps))) (z_c (Nat.blt o 21) (z_k_ishl y pc len a b c d n ts ins ps) (z_c (Nat.blt o 22) (z_k_ishr y pc len a b c d n ts ins ps) (z_k_iushr y pc len a b c d n ts ins ps)))))) (z_c (Nat.blt o 34) (z_c (Nat.blt o 28) (z_c (Nat.blt o 25) (z_c (Nat.blt o 24) (z_k_ladd y pc len a b c d n ts ins ps) (z_k_lsub y pc len a b c d n ts ins ps)) (z_c (Nat.blt o 26) (z_k_lmul y pc len a b c d n ts ins ps) (z_c (Nat.blt o 27) (z_k_ldiv y pc len a b c d n ts ins ps) (z_k_lneg y pc len a b c d n ts ins ps)))) (z_c (Nat.blt o 31) (z_c (Nat.blt o 29) (z_k_land y pc len a b c d n ts ins ps) (z_c (Nat.blt o 30) (z_k_lor y pc len a b c d n ts ins ps) (z_k_lshl y pc len a b c d n ts ins ps))) (z_c (Nat.blt o 32) (z_k_lshr y pc len a b c d n ts ins ps) (z_c (Nat.blt o 33) (z_k_lushr y pc len a b c d n ts ins ps) (z_k_lcmp y pc len a b c d n ts ins ps))))) (z_c (Nat.blt o 40) (z_c (Nat.blt o 37) (z_c (Nat.blt o 35) (z_k_i2l y pc len a b c d n ts ins ps) (z_c (Nat.blt o 36) (z_k_l2i y pc len a b c d n ts ins ps) (z_k_dup y pc len a b c d n ts ins ps))) (z_c (Nat.blt o 38) (z_k_dup2 y pc len a b c d n ts ins ps) (z_c (Nat.blt o 39) (z_k_dup_x1 y pc len a b c d n ts ins ps) (z_k_pop y pc len a b c d n ts ins ps)))) (z_c (Nat.blt o 43) (z_c (Nat.blt o 41) (z_k_goto y pc len a b c d n ts ins ps) (z_c (Nat.blt o 42) (z_k_ifeq y pc len a b c d n ts ins ps) (z_k_ifne y pc len a b c d n ts ins ps))) (z_c (Nat.blt o 44) (z_k_iflt y pc len a b c d n ts ins ps) (z_c (Nat.blt o 45) (z_k_ifge y pc len a b c d n ts ins ps) (z_k_ifgt y pc len a b c d n ts ins ps))))))) (z_c (Nat.blt o 69) (z_c (Nat.blt o 57) (z_c (Nat.blt o 51) (z_c (Nat.blt o 48) (z_c (Nat.blt o 47) (z_k_ifle y pc len a b c d n ts ins ps) (z_k_icmpeq y pc len a b c d n ts ins ps)) (z_c (Nat.blt o 49) (z_k_icmpne y pc len a b c d n ts ins ps) (z_c (Nat.blt o 50) (z_k_icmplt y pc len a b c d n ts ins ps) (z_k_icmpge y pc len a b c d n ts ins ps)))) (z_c (Nat.blt o 54) (z_c (Nat.blt o 52) (z_k_icmpgt y pc len a b c d n ts ins ps) (z_c (Nat.blt o 53) (z_k_icmple y pc len a b c d n ts ins ps) (z_k_acmpeq y pc len a b c d n ts ins ps))) (z_c (Nat.blt o 55) (z_k_switch y pc len a b c d n ts ins ps) (z_c (Nat.blt o 56) (z_k_getfield y pc len a b c d n ts ins ps) (z_k_putfield y pc len a b c d n ts ins ps))))) (z_c (Nat.blt o 63) (z_c (Nat.blt o 60) (z_c (Nat.blt o 58) (z_k_getstatic y pc len a b c d n ts ins ps) (z_c (Nat.blt o 59) (z_k_iaload y pc len a b c d n ts ins ps) (z_k_baload y pc len a b c d n ts ins ps))) (z_c (Nat.blt o 61) (z_k_laload y pc len a b c d n ts ins ps) (z_c (Nat.blt o 62) (z_k_aaload y pc len a b c d n ts ins ps) (z_k_iastore y pc len a b c d n ts ins ps)))) (z_c (Nat.blt o 66) (z_c (Nat.blt o 64) (z_k_bastore y pc len a b c d n ts ins ps) (z_c (Nat.blt o 65) (z_k_lastore y pc len a b c d n ts ins ps) (z_k_aastore y pc len a b c d n ts ins ps))) (z_c (Nat.blt o 67) (z_k_arraylength y pc len a b c d n ts ins ps) (z_c (Nat.blt o 68) (z_k_checkcast y pc len a b c d n ts ins ps) (z_k_throw y pc len a b c d n ts ins ps)))))) (z_c (Nat.blt o 81) (z_c (Nat.blt o 75) (z_c (Nat.blt o 72) (z_c (Nat.blt o 70) (z_k_new y pc len a b c d n ts ins ps) (z_c (Nat.blt o 71) (z_k_newarray y pc len a b c d n ts ins ps) (z_k_anewarray y pc len a b c d n ts ins ps))) (z_c (Nat.blt o 73) (z_k_arraycopy y pc len a b c d n ts ins ps) (z_c (Nat.blt o 74) (z_k_invokestatic y pc len a b c d n ts ins ps) (z_k_invokevirtual y pc len a b c d n ts ins ps)))) (z_c (Nat.blt o 78) (z_c (Nat.blt o 76) (z_k_objinit y pc len a b c d n ts ins ps) (z_c (Nat.blt o 77) (z_k_invokespecial y pc len a b c d n ts ins ps) (z_k_ireturn y pc len a b c d n ts ins ps))) (z_c (Nat.blt o 79) (z_k_zreturn y pc len a b c d n ts ins ps) (z_c (Nat.blt o 80) (z_k_lreturn y pc len a b c d n ts ins ps) (z_k_areturn y pc len a b c d n ts ins ps))))) (z_c (Nat.blt o 87) (z_c (Nat.blt o 84) (z_c (Nat.blt o 82) (z_k_return_ y pc len a b c d n ts ins ps) (z_c (Nat.blt o 83) (z_k_strcall y pc len a b c d n ts ins ps) (z_k_scriptload y pc len a b c d n ts ins ps))) (z_c (Nat.blt o 85) (z_k_bendload y pc len a b c d n ts ins ps) (z_c (Nat.blt o 86) (z_k_scriptlen y pc len a b c d n ts ins ps) (z_k_mmaxi y pc len a b c d n ts ins ps)))) (z_c (Nat.blt o 90) (z_c (Nat.blt o 88) (z_k_mmini y pc len a b c d n ts ins ps) (z_c (Nat.blt o 89) (z_k_mabsi y pc len a b c d n ts ins ps) (z_k_mmaxl y pc len a b c d n ts ins ps))) (z_c (Nat.blt o 91) (z_k_mminl y pc len a b c d n ts ins ps) (z_c (Nat.blt o 92) (z_k_mabsl y pc len a b c d n ts ins ps) (z_k_dead y pc len a b c d n ts ins ps)))))))
/-- operations that don't go on to the next one -/
def z_nf (o : Nat) : Bool := [40, 54, 68, 77, 78, 79, 80, 81, 92].any (fun k => Nat.beq k o)
def z_okE (y : Nat) (e : ZE) (i : Instr × List Nat) : Bool := match e with
  | (pc, o, len, (a, b, c, d, n), ts) => Nat.blt o 93 && (Nat.beq o 92 || decide (decode (z_mb y) pc = .ok (i.1, len))) && z_ke y pc o len a b c d n ts i.1 i.2
/-- each goes on to the one behind it in the list -/
def z_okA : List ZE → Bool
  | [] => true
  | e :: es => (match es with
    | [] => z_nf e.2.1
    | e' :: _ => z_nf e.2.1 || Nat.beq e'.1 (e.1 + e.2.2.1)) && z_okA es
def z_okH (y : Nat) : Bool := (match z_me y with | [] => false | e :: _ => Nat.beq e.1 0) && z_okA (z_me y) && Nat.beq (z_me y).length (z_mi y).length && Nat.ble (z_ml y) 25 && plainName (z_mn y).cls
def z_okZ (y : Nat) (l : List (ZE × (Instr × List Nat))) : Bool := l.all (fun q => z_okE y q.1 q.2)
def z_okM (y : Nat) : Bool := z_okH y && z_okZ y ((z_me y).zip (z_mi y))
