/-! ROW, 21: row and rowed -/
def zSO (n : Nat) (I J : Nat → Nat → Int32) : Prop := ∀ x, 42 ≤ x → x ≤ 45 → ∀ j, j < n → J x j = I x j
theorem zoT_c {n : Nat} {I J : Nat → Nat → Int32} (h : zSO n I J) (S : Nat) : ∀ k, k ≤ n → zoT J S k = zoT I S k := by
  intro k
  induction k with
  | zero => intro _; rfl
  | succ k ih =>
    intro hk
    show zoT J S k + (zbt2 S k : Int) * (J 44 k).toInt = zoT I S k + (zbt2 S k : Int) * (I 44 k).toInt
    rw [ih (by omega), h 44 (by omega) (by omega) k (by omega)]
theorem zolate_c {n : Nat} {I J : Nat → Nat → Int32} (h : zSO n I J) {j : Nat} (hj : j < n) (e : Int) : zolate J j e = zolate I j e := by
  unfold zolate
  rw [h 45 (by omega) (by omega) j hj]
theorem zoc_c {n : Nat} {I J : Nat → Nat → Int32} (h : zSO n I J) {l j : Nat} (hl : l < n) (hj : j < n) (S f c : Nat) : zoc J n S l j f c = zoc I n S l j f c := by
  unfold zoc zobes
  rw [zoT_c h S n (Nat.le_refl _), zolate_c h hj, zolate_c h hj, h 44 (by omega) (by omega) j hj, h 43 (by omega) (by omega) j hj, h 43 (by omega) (by omega) l hl, h 42 (by omega) (by omega) j hj, h 42 (by omega) (by omega) l hl]
theorem zk0_c {n : Nat} {I J : Nat → Nat → Int32} (h : zSO n I J) {l : Nat} (hl : l < n) : zk0 J l = zk0 I l := by
  unfold zk0
  rw [zolate_c h hl, h 44 (by omega) (by omega) l hl]
theorem zkeyl_c {n : Nat} {I J : Nat → Nat → Int32} (h : zSO n I J) (a : zPl2) : ∀ S l c, l < n → zwok n a S → zkeyl J n a S l c = zkeyl I n a S l c := by
  induction a with
  | nil => intro S l c _ _; rfl
  | cons x a ih =>
    intro S l c hl hk
    obtain ⟨h1, h2, h3, h4⟩ := hk
    show zkst J n S l x.1 x.2 c + zkeyl J n a (S + 2 ^ x.1) x.1 (c + x.2) = zkst I n S l x.1 x.2 c + zkeyl I n a (S + 2 ^ x.1) x.1 (c + x.2)
    rw [ih _ _ _ h1 h4]
    unfold zkst
    rw [zoc_c h hl h1]
theorem zKM_c {n : Nat} {I J : Nat → Nat → Int32} (h : zSO n I J) {v : Int} (g : zKM I n v) : zKM J n v := by
  refine zIsM_c g (fun key => ⟨?_, ?_⟩)
  · rintro ⟨k0, a, x1, x2⟩
    exact ⟨k0, a, x1, by rw [x2, zk0_c h x1.1, zkeyl_c h a _ _ _ x1.1 x1.2.1]⟩
  · rintro ⟨k0, a, x1, x2⟩
    exact ⟨k0, a, x1, by rw [x2, zk0_c h x1.1, zkeyl_c h a _ _ _ x1.1 x1.2.1]⟩
theorem zOr_c {n : Nat} {I J : Nat → Nat → Int32} (h : zSO n I J) (g : zOr I n) : zOr J n := by
  refine ⟨g.1, fun k hk => ?_⟩
  rw [h 42 (by omega) (by omega) k hk, h 43 (by omega) (by omega) k hk, h 44 (by omega) (by omega) k hk, h 45 (by omega) (by omega) k hk]
  exact g.2 k hk
/-- the kept row -/
def zYk (I : Nat → Nat → Int32) (L : Nat → Nat → Int64) (k : Nat) : Prop := ∃ (k0 : Nat) (a : zPl2) (coin : Int), zFull k k0 a ∧ 0 ≤ coin ∧ coin ≤ 26600 ∧ (L 41 7).toInt = zky coin (zwc a 0) k0 a ∧ zKM I k (L 41 7).toInt ∧ (∀ j, j < k → (I 104 j).toInt = (((k0 :: a.map Prod.fst).getD j 0 : Nat) : Int)) ∧ (∀ j, j < k → (I 105 j).toInt = (((0 :: a.map Prod.snd).getD j 0 : Nat) : Int))
def zg_Y (I : Nat → Nat → Int32) (L : Nat → Nat → Int64) : Prop := ∃ k : Nat, I 41 8 = Int32.ofNat k ∧ I 55 77 = Int32.ofNat k ∧ (k : Int) ≤ (I 41 4).toInt ∧ (k = 0 → L 41 7 = Int64.ofInt 0) ∧ (1 ≤ k → zYk I L k)
theorem zYk_c {I J : Nat → Nat → Int32} {L L' : Nat → Nat → Int64} {k : Nat} (h : zYk I L k) (hS : zSO k I J) (h4 : J 104 = I 104) (h5 : J 105 = I 105) (hL : L' 41 7 = L 41 7) : zYk J L' k := by
  obtain ⟨k0, a, coin, x1, x2, x3, x4, x5, x6, x7⟩ := h
  refine ⟨k0, a, coin, x1, x2, x3, ?_, ?_, ?_, ?_⟩
  · rw [hL]; exact x4
  · rw [hL]; exact zKM_c hS x5
  · rw [h4]; exact x6
  · rw [h5]; exact x7
theorem zg_Y_c {I J : Nat → Nat → Int32} {L L' : Nat → Nat → Int64} (h : zg_Y I L) (h1 : J 41 8 = I 41 8) (h2 : J 55 77 = I 55 77) (h3 : (I 41 4).toInt ≤ (J 41 4).toInt) (hS : ∀ x, 42 ≤ x → x ≤ 45 → ∀ j : Nat, (j : Int) < (I 41 4).toInt → J x j = I x j) (h4 : J 104 = I 104) (h5 : J 105 = I 105) (hL : L' 41 7 = L 41 7) : zg_Y J L' := by
  obtain ⟨k, a1, a2, a3, a4, a5⟩ := h
  refine ⟨k, by rw [h1, a1], by rw [h2, a2], by omega, fun e => by rw [hL]; exact a4 e, fun e => zYk_c (a5 e) (fun x x1 x2 j hj => hS x x1 x2 j (by omega)) h4 h5 hL⟩
theorem zg_O_n {I : Nat → Nat → Int32} (h : zg_O I) : ∃ n : Nat, zOr I n ∧ zOM I n ∧ I 41 4 = Int32.ofNat n := by
  obtain ⟨h1, h2, h3, h4, h5, h6, h7, h8⟩ := h
  have e : I 41 4 = Int32.ofNat (I 41 4).toInt.toNat := y_nat (by omega)
  refine ⟨(I 41 4).toInt.toNat, ⟨by omega, fun k hk => h8 k (by omega)⟩, ⟨h4.symm, h5.symm, h6.symm, h7.symm, ?_⟩, e⟩
  rw [← h1]
  exact e
theorem zKM_u {I : Nat → Nat → Int32} {n : Nat} {v w : Int} (h : zKM I n v) (g : zKM I n w) (hb : ∀ key, (∃ k0 a, zFull n k0 a ∧ key = zk0 I k0 + zkeyl I n a (2 ^ k0) k0 0) → key ≤ zMX) : v = w := zIsM_u h g hb
theorem zKM_b {I : Nat → Nat → Int32} {n : Nat} (hO : zOr I n) : ∀ key, (∃ k0 a, zFull n k0 a ∧ key = zk0 I k0 + zkeyl I n a (2 ^ k0) k0 0) → key ≤ zMX := by
  have hM : zMX = 9223372036854775807 := rfl
  have hn := hO.1
  rintro key ⟨k0, a, x1, x2⟩
  rw [x2, zky_is hn x1]
  have hl := zFull_is hn x1
  have hr := zky_r hn x1
  have hc := zfc_r hO x1.1 x1.2.1 (by omega)
  unfold zky
  omega
theorem zopt_r {I : Nat → Nat → Int32} {n k0 : Nat} {best few : Int} {a : zPl2} (hO : zOr I n) (h : zOpt I n best few k0 a) : 0 ≤ best ∧ best ≤ 26600 := by
  have hl := zFull_is hO.1 h.1
  have := zfc_r hO h.1.1 h.1.2.1 (by have := hO.1; omega)
  rw [h.2.1] at this
  exact this
def zQR (m t u ce sl : Nat) (I : Nat → Nat → Int32) (L : Nat → Nat → Int64) (A B AL : List Nat) (G : (Nat → Nat → Int32) → (Nat → Nat → Int64) → Prop) (w : ZW) : Prop :=
  ∃ (ce' sl' : Nat) (J : Nat → Nat → Int32) (L' : Nat → Nat → Int64) (r' q' : Nat), w = zw m t u r' q' ce' sl' J L' ∧ zRQ r' q' ∧ ce' ≤ ce + 1 ∧ sl' ≤ sl + 6 ∧ zFr A B I J ∧ (∀ a, a ≠ 117 → a ∉ AL → L' a = L a) ∧ G J L'
theorem zo_row (X : ZX) (d m ce sl : Nat) (I : Nat → Nat → Int32) (L : Nat → Nat → Int64) (t u r q : Nat) (hm : m ≤ 5) (hG : zg_O I) (hY : zg_Y I L) (hrq : zRQ r q) : zOX X (d + 200) 133 [.ref 0] 240 [.ref 55] (118, z_sd m, ce, sl, I, L, z_rr t u r q (z_gg m) (z_sf m)) (zQR m t u ce sl I L [41, 104, 105, 106, 107, 108, 109, 110] [77] [41, 46, 47] (fun J L' => zg_O J ∧ zg_Y J L' ∧ zFs I J)) := by
  obtain ⟨n, hO, hM, h4⟩ := zg_O_n hG
  have hn9 := hO.1
  have h4' : (I 41 4).toInt = n := by rw [h4, y_on (by omega)]
  have h76 : (I 55 76).toInt = n := by rw [← hG.1]; exact h4'
  obtain ⟨k, y1, y2, y3, y4, y5⟩ := hY
  have hk : k ≤ n := by omega
  have h8' : (I 41 8).toInt = k := by rw [y1, y_on (by omega)]
  have e48 : Int32.ofInt 48 = Int32.ofNat 48 := rfl
  have p48 : (2 : Int) ^ 48 = 281474976710656 := by decide
  by_cases cn : n = 0
  · -- no orders
    have k0 : k = 0 := by omega
    refine ⟨Int32.ofInt 0, (118, z_sd m, ce, sl, I, L, z_rr t u r q (z_gg m) (z_sf m)), (118, z_sd m, ce, sl, z_up (z_up I 55 0 (Int32.ofInt 0)) 55 77 (I 55 76), L, z_rr t u r q (z_gg m) (z_sf m)), ?_, ?_, ce, sl, _, L, r, q, rfl, hrq, by omega, by omega, ⟨?_, ?_⟩, fun _ _ _ => rfl, ?_, ?_, ?_⟩
    · refine z_en X (d + 197) _ _ [(0, .ref 0)] _ _ rfl rfl rfl ?_
      have e : z_pu (z_run X z_cf z_ff (d + 199)) 39 [.ref 41] (118, z_sd m, ce, sl, I, L, z_rr t u r q (z_gg m) (z_sf m)) = some (.inl (some (.int (Int32.ofInt 0))), (118, z_sd m, ce, sl, I, L, z_rr t u r q (z_gg m) (z_sf m))) := by
        refine z_en X (d + 196) _ _ [(0, .ref 41)] _ _ rfl rfl rfl ?_
        rw [zb_Orders_findRow_0, if_pos (by rw [y_i_eq]; omega), y4 k0]
        rfl
      rw [zb_X_row_0, e, z_bi_v, zb_X_row_7]
    · exact zr_Mrow0 X (d + 195) _ ce sl I L t u r q _ _ (by omega)
    · intro x h1 h2 h3
      rw [z_up_r _ _ _ _ _ h2, z_up_r _ _ _ _ _ h2]
    · intro j h1 h2
      simp only [List.mem_cons, List.not_mem_nil, or_false] at h2
      rw [z_up_j _ _ _ _ _ h2, z_up_j _ _ _ _ _ h1]
    · exact zg_O_fr hG rfl rfl rfl rfl rfl rfl rfl rfl rfl rfl
    · refine ⟨0, ?_, ?_, ?_, fun _ => y4 k0, fun e => absurd e (by omega)⟩
      · rw [z_up_r _ _ _ _ _ (by omega), z_up_r _ _ _ _ _ (by omega), y1, k0]
      · rw [z_up_s]
        exact y_nat h76 |>.trans (by rw [cn])
      · show ((0 : Nat) : Int) ≤ (I 41 4).toInt
        omega
    · intro k hk
      have hge := z_sd_ge k
      rw [z_up_r _ _ _ _ _ (by omega), z_up_r _ _ _ _ _ (by omega)]
  · have hn1 : 1 ≤ n := by omega
    -- the class's row
    obtain ⟨I1, L1, r1, q1, v, c0, c1, c2, c3, c4, c5, c6, c7⟩ : ∃ (I1 : Nat → Nat → Int32) (L1 : Nat → Nat → Int64) (r1 q1 : Nat) (v : Int64), zRQ r1 q1 ∧ (∀ x, x ≠ 41 → I1 x = I x) ∧ (∀ j, j ≠ 8 → I1 41 j = I 41 j) ∧ I1 41 8 = Int32.ofNat n ∧ (∀ x, x ≠ 41 → x ≠ 46 → x ≠ 47 → L1 x = L x) ∧ L1 41 7 = v ∧ zKM I n v.toInt ∧ z_pu (z_run X z_cf z_ff (d + 200)) 133 [.ref 0] (118, z_sd m, ce, sl, I, L, z_rr t u r q (z_gg m) (z_sf m)) = some (.inl (some (.int (zUS v (Int32.ofInt 48)).toInt32)), (118, z_sd m, ce, sl, I1, L1, z_rr t u r1 q1 (z_gg m) (z_sf m))) := by
      by_cases ck : k = n
      · subst ck
        obtain ⟨k0, a, coin, x1, x2, x3, x4, x5, x6, x7⟩ := y5 hn1
        refine ⟨I, L, r, q, L 41 7, hrq, fun _ _ => rfl, fun _ _ => rfl, y1, fun _ _ _ _ => rfl, rfl, x5, ?_⟩
        refine z_en X (d + 197) _ _ [(0, .ref 0)] _ _ rfl rfl rfl ?_
        have e : z_pu (z_run X z_cf z_ff (d + 199)) 39 [.ref 41] (118, z_sd m, ce, sl, I, L, z_rr t u r q (z_gg m) (z_sf m)) = some (.inl (some (.int (zUS (L 41 7) (Int32.ofInt 48)).toInt32)), (118, z_sd m, ce, sl, I, L, z_rr t u r q (z_gg m) (z_sf m))) := by
          refine z_en X (d + 196) _ _ [(0, .ref 41)] _ _ rfl rfl rfl ?_
          rw [zb_Orders_findRow_0, if_pos (by rw [y_i_eq]; omega)]
          rfl
        rw [zb_X_row_0, e, z_bi_v, zb_X_row_7]
      · obtain ⟨L', y, r', q', b1, b2, b3, b4⟩ := zr_bestRow X (d + 192) m ce sl I t u r q hO hn1 h4 hrq L
        refine ⟨z_up I 41 8 (I 41 4), z_up L' 41 7 y, r', q', y, b1, fun x hx => z_up_r _ _ _ _ _ hx, fun j hj => z_up_j _ _ _ _ _ hj, by rw [z_up_s, h4], fun x h1 h2 h3 => by rw [z_up_r _ _ _ _ _ h1, b2 x h2 h3], z_up_s _ _ _ _, zIsM_full hO b3, ?_⟩
        refine z_en X (d + 197) _ _ [(0, .ref 0)] _ _ rfl rfl rfl ?_
        have e : z_pu (z_run X z_cf z_ff (d + 199)) 39 [.ref 41] (118, z_sd m, ce, sl, I, L, z_rr t u r q (z_gg m) (z_sf m)) = some (.inl (some (.int (zUS y (Int32.ofInt 48)).toInt32)), (118, z_sd m, ce, sl, z_up I 41 8 (I 41 4), z_up L' 41 7 y, z_rr t u r' q' (z_gg m) (z_sf m))) := by
          refine z_en X (d + 196) _ _ [(0, .ref 41)] _ _ rfl rfl rfl ?_
          rw [show (100000000 : Nat) = 99999999 + 1 by omega, zb_Orders_findRow_0, if_neg (by rw [y_i_eq]; omega), b4, z_bl_v, zb_Orders_findRow_16]
          rfl
        rw [zb_X_row_0, e, z_bi_v, zb_X_row_7]
    have hOr1 : zSO n I I1 := fun x x1 x2 j hj => by rw [c1 x (by omega)]
    have hF1 : ∀ x, x ≠ 41 → x ≠ 55 → (z_up (z_up I1 55 0 (Int32.ofInt 0)) 55 77 (I1 55 76)) x = I x := fun x x1 x2 => by rw [z_up_r _ _ _ _ _ x2, z_up_r _ _ _ _ _ x2, c1 x x1]
    obtain ⟨J1, hJ1⟩ : ∃ J1, J1 = z_up (z_up I1 55 0 (Int32.ofInt 0)) 55 77 (I1 55 76) := ⟨_, rfl⟩
    rw [← hJ1] at hF1
    have hSO : zSO n I J1 := fun x x1 x2 j hj => by rw [hF1 x (by omega) (by omega)]
    have hO1 : zOr J1 n := zOr_c hSO hO
    have hM1 : zOM J1 n := by
      refine ⟨by rw [hF1 100 (by omega) (by omega), hF1 42 (by omega) (by omega)]; exact hM.1, by rw [hF1 101 (by omega) (by omega), hF1 43 (by omega) (by omega)]; exact hM.2.1, by rw [hF1 102 (by omega) (by omega), hF1 44 (by omega) (by omega)]; exact hM.2.2.1, by rw [hF1 103 (by omega) (by omega), hF1 45 (by omega) (by omega)]; exact hM.2.2.2.1, ?_⟩
      rw [hJ1, z_up_j _ _ _ _ _ (by omega), z_up_j _ _ _ _ _ (by omega), c1 55 (by omega)]
      exact hM.2.2.2.2
    obtain ⟨K, res, few, k0, a, e1, e2, e3, e4, e5, e6, e7⟩ := zr_Mrow X (d + 195) (z_sd m) ce sl I1 J1 L1 t u r1 q1 (z_gg m) (z_sf m) hO1 hM1 hn1 hJ1
    have hv : v.toInt = zky res.toInt (zwc a 0) k0 a := zKM_u c6 (zKM_c (I := J1) (J := I) (fun x x1 x2 j hj => (hSO x x1 x2 j hj).symm) e4) (zKM_b hO)
    have hrs := zopt_r hO1 e3
    have hry := zky_r hn9 e3.1
    have hly := zFull_is hn9 e3.1
    have hv0 : 0 ≤ v.toInt := by
      rw [hv]
      unfold zky
      omega
    have hres : (zUS v (Int32.ofInt 48)).toInt32 = res := by
      refine y_i_eq.mpr ?_
      have := zUS_is (k := 48) hv0 (by omega)
      rw [hv, p48, zky_coin hn9 e3.1] at this
      exact zUS_32 this (by omega) (by omega)
    have kF : ∀ x, (x < 104 ∨ 110 < x) → x ≠ 41 → x ≠ 55 → K x = I x := fun x x1 x2 x3 => by rw [e1 x x1, hF1 x x2 x3]
    have k41 : K 41 = I1 41 := by rw [e1 41 (by omega), hJ1, z_up_r _ _ _ _ _ (by omega), z_up_r _ _ _ _ _ (by omega)]
    have k55 : ∀ j, j ≠ 0 → j ≠ 77 → K 55 j = I 55 j := fun j j1 j2 => by rw [e1 55 (by omega), hJ1, z_up_j _ _ _ _ _ j2, z_up_j _ _ _ _ _ j1, c1 55 (by omega)]
    refine ⟨res, _, _, by rw [← hres]; exact c7, e7, ce, sl, K, L1, r1, q1, rfl, c0, by omega, by omega, ⟨?_, ?_⟩, ?_, ?_, ?_, ?_⟩
    · intro x h1 h2 h3
      simp only [List.mem_cons, List.not_mem_nil, or_false, not_or] at h3
      exact kF x (by omega) (by omega) h2
    · intro j h1 h2
      simp only [List.mem_cons, List.not_mem_nil, or_false] at h2
      exact k55 j h1 h2
    · intro x h1 h2
      simp only [List.mem_cons, List.not_mem_nil, or_false, not_or] at h2
      exact c4 x (by omega) (by omega) (by omega)
    · exact zg_O_fr hG (by rw [k41, c2 4 (by omega)]) (k55 76 (by omega) (by omega)) (kF 42 (by omega) (by omega) (by omega)) (kF 43 (by omega) (by omega) (by omega)) (kF 44 (by omega) (by omega) (by omega)) (kF 45 (by omega) (by omega) (by omega)) (kF 100 (by omega) (by omega) (by omega)) (kF 101 (by omega) (by omega) (by omega)) (kF 102 (by omega) (by omega) (by omega)) (kF 103 (by omega) (by omega) (by omega))
    · refine ⟨n, by rw [k41, c3], ?_, by rw [k41, c2 4 (by omega), h4']; exact Int.le_refl _, fun e => absurd e cn, fun _ => ⟨k0, a, res.toInt, e3.1, hrs.1, hrs.2, by rw [c5, hv], ?_, e5, e6⟩⟩
      · rw [e1 55 (by omega), hJ1, z_up_s, c1 55 (by omega)]
        exact hM.2.2.2.2
      · rw [c5]
        exact zKM_c (fun x x1 x2 j hj => by rw [kF x (by omega) (by omega) (by omega)]) c6
    · intro k hk
      have hge := z_sd_ge k
      exact kF _ (by omega) (by omega) (by omega)
