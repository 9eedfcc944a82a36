/-! MAIN, 8: the first world keeps the relation; the law's run as a whole -/
def zeU : List (Nat × Nat × Nat) := [(2, 0, 3), (2, 1, 4), (1, 0, 2), (5, 1, 1003), (1, 1, 5), (0, 0, 1), (0, 1, 6), (8, 0, 9), (8, 2, 10), (8, 3, 11), (8, 4, 12), (8, 5, 13), (8, 6, 14), (7, 3, 8), (15, 0, 16), (15, 2, 17), (15, 3, 18), (15, 4, 19), (15, 5, 20), (15, 6, 21), (7, 4, 15), (7, 0, 6), (0, 3, 7), (22, 0, 23), (22, 1, 24), (0, 4, 22), (25, 9, 26), (25, 10, 27), (25, 11, 28), (25, 13, 29), (25, 0, 1), (25, 1, 22), (0, 5, 25), (30, 1, 31), (30, 3, 32), (30, 5, 33), (30, 6, 34), (30, 7, 35), (30, 10, 36), (30, 11, 37), (30, 12, 38), (30, 0, 1), (0, 6, 30), (0, 7, 39), (0, 8, 40), (41, 0, 42), (41, 1, 43), (41, 2, 44), (41, 3, 45), (41, 5, 46), (41, 6, 47), (0, 9, 41), (48, 1, 49), (48, 2, 50), (48, 3, 51), (48, 4, 52), (48, 5, 53), (48, 7, 54), (0, 10, 48), (55, 2, 56), (55, 3, 57), (55, 4, 58), (55, 5, 59), (55, 6, 60), (55, 7, 61), (55, 8, 62), (55, 9, 63), (55, 10, 64), (55, 11, 65), (55, 12, 66), (55, 14, 67), (55, 15, 68), (55, 16, 69), (55, 34, 70), (55, 35, 71), (55, 36, 72), (55, 37, 73), (55, 38, 74), (55, 39, 75), (55, 40, 76), (55, 41, 77), (55, 49, 78), (55, 50, 79), (55, 51, 80), (55, 52, 81), (55, 53, 82), (55, 56, 83), (55, 57, 84), (55, 58, 85), (55, 59, 86), (55, 60, 87), (55, 61, 88), (55, 62, 89), (55, 63, 90), (55, 66, 91), (55, 67, 92), (55, 68, 93), (55, 69, 94), (55, 70, 95), (55, 71, 96), (55, 73, 97), (55, 74, 98), (55, 75, 99), (55, 78, 100), (55, 79, 101), (55, 80, 102), (55, 81, 103), (55, 82, 104), (55, 83, 105), (55, 84, 106), (55, 85, 107), (55, 86, 108), (55, 87, 109), (55, 88, 110), (55, 91, 111), (55, 92, 112), (55, 93, 113), (55, 94, 114), (55, 95, 115), (55, 96, 116)]
def zeCells : List Nat := [0, 1, 2, 5, 7, 8, 15, 22, 25, 30, 41, 48, 55]
set_option maxRecDepth 100000 in
theorem zeR_u : zeR = zeU.foldl (fun f u => z_up f u.1 u.2.1 (some u.2.2)) (fun _ _ => none) := rfl
theorem zeU_far (a k : Nat) (l : List (Nat × Nat × Nat)) : ∀ (f : Nat → Nat → Option Nat), (∀ u ∈ l, a ≠ u.1 ∨ k ≠ u.2.1) → l.foldl (fun f u => z_up f u.1 u.2.1 (some u.2.2)) f a k = f a k := by
  induction l with
  | nil => intro f _; rfl
  | cons u l ih =>
    intro f h
    show l.foldl _ (z_up f u.1 u.2.1 (some u.2.2)) a k = _
    rw [ih _ (fun v hv => h v (List.mem_cons_of_mem _ hv))]
    rcases h u List.mem_cons_self with e | e
    · rw [z_up_r _ _ _ _ _ e]
    · exact z_up_jj _ _ _ _ _ _ e
theorem zeU_c : ∀ u ∈ zeU, u.1 ∈ zeCells ∧ u.2.1 < 97 := by decide +kernel
theorem zeR_near : ∀ a ∈ zeCells, ∀ k, k < 97 → zeR a k = z_rr 8 15 46 47 1003 (z_sf 0) a k := by decide +kernel

theorem zrr_no (a k : Nat) (h : ∀ c ∈ [0, 1, 2, 5, 7, 8, 15, 22, 25, 30, 41, 48, 55, 119], a ≠ c) : z_rr 8 15 46 47 1003 (z_sf 0) a k = none := by
  have e : ∀ c, c ∈ [0, 1, 2, 5, 7, 8, 15, 22, 25, 30, 41, 48, 55, 119] → Nat.beq a c = false := fun c hc => z_beq_n (h c hc)
  simp only [z_rr, z_rs, z_dd, z_c, e 0 (by decide), e 1 (by decide), e 2 (by decide), e 5 (by decide), e 7 (by decide), e 8 (by decide), e 15 (by decide), e 22 (by decide), e 25 (by decide), e 30 (by decide), e 41 (by decide), e 48 (by decide), e 55 (by decide), e 119 (by decide), cond_false]
theorem zrr_far (a k : Nat) (h : a ∈ zeCells) (hk : 97 ≤ k) : z_rr 8 15 46 47 1003 (z_sf 0) a k = none := by
  have f : ∀ c, c < 97 → Nat.beq k c = false := fun c hc => z_beq_n (by omega)
  have g : Nat.blt k 97 = false := by
    rw [Bool.eq_false_iff]
    intro e
    have := z_blt_t e
    omega
  simp only [zeCells, List.mem_cons, List.not_mem_nil, or_false] at h
  rcases h with rfl | rfl | rfl | rfl | rfl | rfl | rfl | rfl | rfl | rfl | rfl | rfl | rfl
  · simp only [z_rr, z_rs, z_dd, z_c, f 0 (by decide), f 1 (by decide), f 2 (by decide), f 3 (by decide), f 4 (by decide), f 5 (by decide), f 6 (by decide), f 7 (by decide), f 8 (by decide), f 9 (by decide), f 10 (by decide), f 11 (by decide), f 12 (by decide), f 13 (by decide), f 14 (by decide), g, cond_false] <;> rfl
  · simp only [z_rr, z_rs, z_dd, z_c, f 0 (by decide), f 1 (by decide), f 2 (by decide), f 3 (by decide), f 4 (by decide), f 5 (by decide), f 6 (by decide), f 7 (by decide), f 8 (by decide), f 9 (by decide), f 10 (by decide), f 11 (by decide), f 12 (by decide), f 13 (by decide), f 14 (by decide), g, cond_false] <;> rfl
  · simp only [z_rr, z_rs, z_dd, z_c, f 0 (by decide), f 1 (by decide), f 2 (by decide), f 3 (by decide), f 4 (by decide), f 5 (by decide), f 6 (by decide), f 7 (by decide), f 8 (by decide), f 9 (by decide), f 10 (by decide), f 11 (by decide), f 12 (by decide), f 13 (by decide), f 14 (by decide), g, cond_false] <;> rfl
  · simp only [z_rr, z_rs, z_dd, z_c, f 0 (by decide), f 1 (by decide), f 2 (by decide), f 3 (by decide), f 4 (by decide), f 5 (by decide), f 6 (by decide), f 7 (by decide), f 8 (by decide), f 9 (by decide), f 10 (by decide), f 11 (by decide), f 12 (by decide), f 13 (by decide), f 14 (by decide), g, cond_false] <;> rfl
  · simp only [z_rr, z_rs, z_dd, z_c, f 0 (by decide), f 1 (by decide), f 2 (by decide), f 3 (by decide), f 4 (by decide), f 5 (by decide), f 6 (by decide), f 7 (by decide), f 8 (by decide), f 9 (by decide), f 10 (by decide), f 11 (by decide), f 12 (by decide), f 13 (by decide), f 14 (by decide), g, cond_false] <;> rfl
  · simp only [z_rr, z_rs, z_dd, z_c, f 0 (by decide), f 1 (by decide), f 2 (by decide), f 3 (by decide), f 4 (by decide), f 5 (by decide), f 6 (by decide), f 7 (by decide), f 8 (by decide), f 9 (by decide), f 10 (by decide), f 11 (by decide), f 12 (by decide), f 13 (by decide), f 14 (by decide), g, cond_false] <;> rfl
  · simp only [z_rr, z_rs, z_dd, z_c, f 0 (by decide), f 1 (by decide), f 2 (by decide), f 3 (by decide), f 4 (by decide), f 5 (by decide), f 6 (by decide), f 7 (by decide), f 8 (by decide), f 9 (by decide), f 10 (by decide), f 11 (by decide), f 12 (by decide), f 13 (by decide), f 14 (by decide), g, cond_false] <;> rfl
  · simp only [z_rr, z_rs, z_dd, z_c, f 0 (by decide), f 1 (by decide), f 2 (by decide), f 3 (by decide), f 4 (by decide), f 5 (by decide), f 6 (by decide), f 7 (by decide), f 8 (by decide), f 9 (by decide), f 10 (by decide), f 11 (by decide), f 12 (by decide), f 13 (by decide), f 14 (by decide), g, cond_false] <;> rfl
  · simp only [z_rr, z_rs, z_dd, z_c, f 0 (by decide), f 1 (by decide), f 2 (by decide), f 3 (by decide), f 4 (by decide), f 5 (by decide), f 6 (by decide), f 7 (by decide), f 8 (by decide), f 9 (by decide), f 10 (by decide), f 11 (by decide), f 12 (by decide), f 13 (by decide), f 14 (by decide), g, cond_false] <;> rfl
  · simp only [z_rr, z_rs, z_dd, z_c, f 0 (by decide), f 1 (by decide), f 2 (by decide), f 3 (by decide), f 4 (by decide), f 5 (by decide), f 6 (by decide), f 7 (by decide), f 8 (by decide), f 9 (by decide), f 10 (by decide), f 11 (by decide), f 12 (by decide), f 13 (by decide), f 14 (by decide), g, cond_false] <;> rfl
  · simp only [z_rr, z_rs, z_dd, z_c, f 0 (by decide), f 1 (by decide), f 2 (by decide), f 3 (by decide), f 4 (by decide), f 5 (by decide), f 6 (by decide), f 7 (by decide), f 8 (by decide), f 9 (by decide), f 10 (by decide), f 11 (by decide), f 12 (by decide), f 13 (by decide), f 14 (by decide), g, cond_false] <;> rfl
  · simp only [z_rr, z_rs, z_dd, z_c, f 0 (by decide), f 1 (by decide), f 2 (by decide), f 3 (by decide), f 4 (by decide), f 5 (by decide), f 6 (by decide), f 7 (by decide), f 8 (by decide), f 9 (by decide), f 10 (by decide), f 11 (by decide), f 12 (by decide), f 13 (by decide), f 14 (by decide), g, cond_false] <;> rfl
  · simp only [z_rr, z_rs, z_dd, z_c, f 0 (by decide), f 1 (by decide), f 2 (by decide), f 3 (by decide), f 4 (by decide), f 5 (by decide), f 6 (by decide), f 7 (by decide), f 8 (by decide), f 9 (by decide), f 10 (by decide), f 11 (by decide), f 12 (by decide), f 13 (by decide), f 14 (by decide), g, cond_false] <;> rfl
theorem zeR_eq : zeR = z_rr 8 15 46 47 1003 (z_sf 0) := by
  funext a k
  by_cases h : a ∈ zeCells
  · by_cases hk : k < 97
    · exact zeR_near a h k hk
    · rw [zrr_far a k h (by omega), zeR_u, zeU_far a k zeU _ (fun u hu => Or.inr (by have := (zeU_c u hu).2; omega))]
  · by_cases h9 : a = 119
    · subst h9
      rw [zeR_u, zeU_far 119 k zeU _ (fun u hu => Or.inl (fun e => h (by rw [e]; exact (zeU_c u hu).1)))]
      rfl
    · rw [zeR_u, zeU_far a k zeU _ (fun u hu => Or.inl (fun e => h (by rw [e]; exact (zeU_c u hu).1))), zrr_no a k (fun c hc e => by
        subst e
        simp only [List.mem_cons, List.not_mem_nil, or_false] at hc
        simp only [zeCells, List.mem_cons, List.not_mem_nil, or_false, not_or] at h
        omega)]
theorem zeI_st (k j : Nat) : zeI (z_sd k) j = 0 := by
  have := z_sd_ge k
  unfold zeI
  rw [z_up_r _ _ _ _ _ (by omega), z_up_r _ _ _ _ _ (by omega), z_up_r _ _ _ _ _ (by omega), z_up_r _ _ _ _ _ (by omega), z_up_r _ _ _ _ _ (by omega), z_up_r _ _ _ _ _ (by omega), z_up_r _ _ _ _ _ (by omega)]
theorem z_t0 : (0 : Int32).toInt = 0 := rfl
theorem zRel_0 : zRel 0 0 8 15 46 47 zeI (fun _ _ => 0) := by
  refine ⟨?_, ?_, ?_, ?_, ?_, ?_, ?_, ?_, ?_, ?_, ?_, ?_, Or.inl ⟨rfl, rfl⟩, Or.inl ⟨rfl, rfl⟩, rfl⟩
  · exact ⟨by omega, rfl, rfl, fun k hk => by omega, fun k _ _ j => zeI_st k j⟩
  · refine ⟨0, by omega, rfl, rfl, ⟨rfl, rfl, fun k hk => by omega, fun k hk => by omega, ?_, ?_⟩, fun k hk => by omega, fun k hk => by omega⟩
    · intro k hk
      have e : k = 0 := by omega
      subst e
      exact (by decide : (0 : Int) ≤ 60000)
    · intro k hk
      have e : k = 0 := by omega
      subst e
      exact (by decide : (0 : Int) ≤ 99999)
  · exact ⟨rfl, (by decide : (0 : Int) ≤ 0), (by decide : (0 : Int) ≤ 400), rfl⟩
  · exact ⟨rfl, (by decide : (0 : Int) ≤ 0), (by decide : (0 : Int) ≤ 40), rfl, rfl, fun k hk => absurd (show (k : Int) < 0 from hk) (by omega)⟩
  · exact ⟨rfl, (by decide : (0 : Int) ≤ 0), (by decide : (0 : Int) ≤ 12), rfl, fun k hk => absurd (show (k : Int) < 0 from hk) (by omega), fun j k _ hk => absurd (show (k : Int) < 0 from hk) (by omega)⟩
  · exact ⟨rfl, (by decide : (0 : Int) ≤ 0), (by decide : (0 : Int) ≤ ((0 : Nat) : Int)), fun k hk => absurd (show (k : Int) < 0 from hk) (by omega)⟩
  · exact ⟨rfl, (by decide : (0 : Int) ≤ 0), (by decide : (0 : Int) ≤ 9), rfl, rfl, rfl, rfl, fun k hk => absurd (show (k : Int) < 0 from hk) (by omega)⟩
  · exact ⟨rfl, (by decide : (0 : Int) ≤ 0), (by decide : (0 : Int) ≤ 99), rfl, (by decide : (0 : Int) ≤ 0), (by decide : (0 : Int) ≤ 100), rfl, rfl, rfl, rfl, rfl, fun k hk => absurd (show (k : Int) < 0 from hk) (by omega)⟩
  · exact zg_U_no rfl rfl
  · exact ⟨fun _ _ => rfl, fun _ _ => rfl⟩
  · refine ⟨[], (0, 0, 99999, 99999), ⟨⟨0, by omega, trivial⟩, rfl, rfl, rfl, rfl, rfl⟩, ⟨⟨(by decide : (0 : Int) ≤ 0), (by decide : (0 : Int) ≤ 1)⟩, Or.inl ⟨rfl, rfl, rfl⟩⟩, by decide, fun c hc => absurd hc List.not_mem_nil, by decide, by decide⟩
  · exact ⟨0, rfl, rfl, (by decide : ((0 : Nat) : Int) ≤ 0), fun _ => rfl, fun h => absurd h (by omega)⟩
theorem z_main (X : ZX) (hX : X.1 ≤ 7168) : ∃ w1 : ZW, w1.2.2.1 ≤ 601024 ∧ w1.2.2.2.1 ≤ 7293034 ∧ z_exec X (z_run X z_cf z_ff 1000) (z_mh 273) [(23, [0, 1, 2, 3, 4])] (z_jl X z_cf z_ff 23) 4000 (z_me 273) zeF [(0, .ref 1001)] [] z_w0 = some (.inl (some (.int 1)), w1) := by
  obtain ⟨w1, h1, h2, h3⟩ := zm_jl X hX 0 8 15 46 47 118 101870 zeI (fun _ _ => 0) zRel_0 (by decide)
  refine ⟨w1, by omega, by omega, ?_⟩
  refine (ze_law X 995 _).trans ?_
  rw [zeR_eq]
  exact h3
