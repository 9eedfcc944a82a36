/-! PLAN, 14: plan -/
theorem zpF_c {I J : Nat → Nat → Int32} (h : zPF I J) (p : Nat) (h0 : Int32) (m : Nat) (F : Nat → Int32) : zpF J p h0 m F = zpF I p h0 m F := by
  funext r i j
  unfold zpF
  rw [zPF_pp h]
def zPlM (I K : Nat → Nat → Int32) (p m : Nat) (h0 : Int32) (F : Nat → Int32) (N gl : Nat) (res : Int32) : Prop :=
  ((m = 0 ∨ zW (zpF I p h0 m F) N gl m 0 = zNV) ∧ res = Int32.ofInt (-1) ∧ K 55 65 = I 55 65 ∧ K 92 = I 92 ∧ K 93 = I 93 ∧ K 94 = I 94) ∨
  (1 ≤ m ∧ zW (zpF I p h0 m F) N gl m 0 ≠ zNV ∧ res.toInt = zW (zpF I p h0 m F) N gl m 0 ∧ K 55 65 = Int32.ofNat m ∧ ∀ s, s < m → K 92 s = F (zgi (zpF I p h0 m F) N gl (zW (zpF I p h0 m F) N gl m 0) m (s + 1)) ∧
    K 93 s = Int32.ofInt (zm_pr (zd I) (zf I) p ((F (zgi (zpF I p h0 m F) N gl (zW (zpF I p h0 m F) N gl m 0) m s)).toInt - (F (zgi (zpF I p h0 m F) N gl (zW (zpF I p h0 m F) N gl m 0) m (s + 1))).toInt) (zhw I h0 s)) ∧
    K 94 s = Int32.ofInt (zgp I p s h0 (F (zgi (zpF I p h0 m F) N gl (zW (zpF I p h0 m F) N gl m 0) m s)).toInt (F (zgi (zpF I p h0 m F) N gl (zW (zpF I p h0 m F) N gl m 0) m (s + 1))).toInt))
theorem zr_Mplan (X : ZX) (d m ce sl : Nat) (I : Nat → Nat → Int32) (L : Nat → Nat → Int64) (t u r q : Nat) {C p P N gl : Nat} (hS : zg_S C m I) (hL : zg_L p I) (hP : (I 55 64).toInt = P) (hP12 : P ≤ 12) (hrP : ∀ j, j < P → 1 ≤ (I 91 j).toInt ∧ (I 91 j).toInt ≤ 60000) (a h0 v : Int32) (ha0 : 1 ≤ a.toInt) (ha1 : a.toInt ≤ 60000) (hh0 : 1 ≤ h0.toInt) (hh1 : h0.toInt ≤ 99) (hv0 : 1 ≤ v.toInt) (hv1 : v.toInt ≤ 60000) {F : Nat → Int32} (hst : zStp (I 91) P a F N) (hgl : gl < N ∧ F gl = v ∨ gl = N ∧ ∀ i, i < N → F i ≠ v) : ∃ (K : Nat → Nat → Int32) (L' : Nat → Nat → Int64) (res : Int32), z_pu (z_run X z_cf z_ff (d + 8)) 227 [.ref 55, .int a, .int h0, .int v] (118, z_sd m, ce, sl, I, L, z_rr t u r q (z_gg m) (z_sf m)) = some (.inl (some (.int res)), (118, z_sd m, ce, sl, K, L', z_rr t u r q (z_gg m) (z_sf m))) ∧
    (∀ x, x ≠ 55 → x ≠ 92 → x ≠ 93 → x ≠ 94 → x ≠ 97 → K x = I x) ∧ (∀ j, j ≠ 0 → j ≠ 65 → j ≠ 72 → K 55 j = I 55 j) ∧ K 55 0 = Int32.ofInt 0 ∧ (∀ x, x ≠ 95 → x ≠ 96 → L' x = L x) ∧ zPlM I K p m h0 F N gl res := by
  have h5 := hS.1
  have hm := hS.2.2.1
  have hm' : (I 55 1).toInt = m := by rw [hm, y_on (by omega)]
  have hNV : zNV = 1000000000000000 := rfl
  have hN : (Int64.ofInt 1000000000000000).toInt = 1000000000000000 := y_ol (by omega) (by omega)
  have hN1 := hst.1
  obtain ⟨I1, hI1⟩ : ∃ I1, I1 = z_up (z_up I 55 0 (Int32.ofInt 0)) 55 72 a := ⟨_, rfl⟩
  have i1r : ∀ x, x ≠ 55 → I1 x = I x := fun x hx => by rw [hI1, z_up_r _ _ _ _ _ hx, z_up_r _ _ _ _ _ hx]
  have i15 : ∀ j, j ≠ 0 → j ≠ 72 → I1 55 j = I 55 j := fun j j1 j2 => by rw [hI1, z_up_j _ _ _ _ _ j2, z_up_j _ _ _ _ _ j1]
  have i10 : I1 55 0 = Int32.ofInt 0 := by rw [hI1, z_up_j _ _ _ _ _ (by omega), z_up_s]
  have hF1 : zPF I I1 := ⟨fun x _ x2 _ => i1r x x2, i15 1 (by omega) (by omega), i15 13 (by omega) (by omega)⟩
  have hS1 := zPF_S hF1 hS
  have hL1 := zPF_L hF1 hL
  have hths : zThs (I 91) P a (zth I1) := by
    refine ⟨hP12, ?_, fun k hk => ?_⟩
    · show (if 12 = 12 then I1 55 72 else I1 91 12) = a
      rw [if_pos rfl, hI1, z_up_s]
    · show (if k = 12 then I1 55 72 else I1 91 k) = I 91 k
      rw [if_neg (by omega), i1r 91 (by omega)]
  have hthr : ∀ k, (k < P ∨ k = 12) → 1 ≤ (zth I1 k).toInt ∧ (zth I1 k).toInt ≤ 60000 := by
    intro k hk
    rcases hk with hk | hk
    · rw [hths.2.2 k hk]
      exact hrP k hk
    · rw [hk, hths.2.1]
      omega
  have hp9 := zpF_r hS1 hL1 (h0 := h0) (by omega) F
  have hpok : zpok (zpF I1 p h0 m F) := fun r i j => by have := hp9 r i j; omega
  have hTok : ∀ s, s < m → ∀ f, zTok (ztb I1 p P h0 (zth I1) s f) := by
    intro s hs f k
    unfold ztb
    by_cases c1 : f < P ∨ f = 12
    · rw [if_pos c1]
      by_cases c2 : k < P ∨ k = 12
      · rw [if_pos c2]
        exact zpp_r hS1 hL1 (by omega) hs _ _
      · rw [if_neg c2]
        exact Or.inl rfl
    · rw [if_neg c1]
      exact Or.inl rfl
  by_cases cm : m = 0
  · refine ⟨I1, L, Int32.ofInt (-1), ?_, fun x x1 _ _ _ _ => i1r x x1, fun j j0 _ j2 => i15 j j0 j2, i10, fun _ _ _ => rfl, Or.inl ⟨Or.inl cm, rfl, i15 65 (by omega) (by omega), i1r 92 (by omega), i1r 93 (by omega), i1r 94 (by omega)⟩⟩
    refine z_en X (d + 5) _ _ [(0, .ref 55), (1, .int a), (2, .int h0), (3, .int v)] _ _ rfl rfl rfl ?_
    rw [show (100000000 : Nat) = 99999998 + 2 by omega, zt_M_plan_0 X (d + 4), if_neg (by rw [y_mt0]; omega), if_neg (by rw [y_mt0]; omega), if_neg (by rw [y_mh0]; omega), if_pos (by rw [y_i_eq, y_i0]; omega), ← hI1]
  · obtain ⟨K2, a1, a2, a3, a4⟩ := zr_tb X (d + 1) m ce sl I1 L t u r q hS1 hL1 (P := P) (by rw [i15 64 (by omega) (by omega)]; exact hP) h0 v (by omega) hh1 hthr m 0 I1 (Int32.ofInt 0) (by omega) rfl (fun _ _ => rfl)
    have k2m : K2 55 1 = Int32.ofNat m := by rw [a1 55 (by omega), i15 1 (by omega) (by omega), hm]
    have k2m' : (K2 55 1 - Int32.ofInt 1).toInt = (m : Int) - 1 := by rw [k2m, y_sbl (by omega) (by omega) (by rw [y_on (by omega)]; omega) (by rw [y_on (by omega)]; omega), y_on (by omega)]
    have k2th : zth K2 = zth I1 := by
      funext k
      unfold zth
      rw [a1 55 (by omega), a1 91 (by omega)]
    obtain ⟨L2, b1, b2, b3, b4⟩ := zr_tend X (d + 1) m ce sl K2 t u r q (P := P) h5 k2m (by rw [a1 55 (by omega), i15 64 (by omega) (by omega)]; exact hP) h0 v 13 0 L (Int32.ofInt 0) (by omega) rfl
    have hend : ∀ f, f < 13 → (L2 95 (13 * m + f)).toInt = (if (f < P ∨ f = 12) ∧ zth I1 f = v then 0 else zNV) ∧ (L2 96 (13 * m + f)).toInt = if (f < P ∨ f = 12) ∧ zth I1 f = v then 0 else zNV := by
      intro f hf
      have := b3 f (by omega) hf
      rw [k2th] at this
      rw [this.1, this.2]
      by_cases c : (f < P ∨ f = 12) ∧ zth I1 f = v
      · rw [if_pos c]
        exact ⟨y_ol (by omega) (by omega), y_ol (by omega) (by omega)⟩
      · rw [if_neg c]
        exact ⟨y_ol (by omega) (by omega), y_ol (by omega) (by omega)⟩
    have hI97 : ∀ s, s < m → ∀ f, f < 13 → ∀ k, k < 13 → K2 97 (169 * s + 13 * f + k) = Int32.ofInt (ztb I1 p P h0 (zth I1) s f k) := fun s hs f hf k hk => a3 s (by omega) hs f hf k hk
    have rng0 : ∀ c : Prop, ∀ (_ : Decidable c), (if c then (0 : Int) else zNV) = zNV ∨ 0 ≤ (if c then (0 : Int) else zNV) ∧ (if c then (0 : Int) else zNV) ≤ 9999999 * ((m - m : Nat) : Int) := by
      intro c _
      by_cases cc : c
      · rw [if_pos cc]
        exact Or.inr (by omega)
      · rw [if_neg cc]
        exact Or.inl rfl
    obtain ⟨L3, x4', c0, c1, c2, c3, c4, c5⟩ := zr_worst X (d + 4) (z_sd m) ce sl K2 t u r q (z_gg m) (z_sf m) (fun s f k => ztb I1 p P h0 (zth I1) s f k) h5 (fun s hs f => hTok s hs f) hI97 h0 m (Nat.le_refl _) L2 (K2 55 1 - Int32.ofInt 1) k2m' (by
      intro s s1 s2 k hk
      have e : s = m := by omega
      rw [e, (hend k hk).1]
      exact rng0 _ _)
    have hclW := zcl_W (I := I1) (p := p) (h0 := h0) (w := fun s f => (L3 95 (13 * s + f)).toInt) hpok hst hths hgl (by
      intro f hf
      show (L3 95 (13 * m + f)).toInt = _
      rw [c2 _ (by omega)]
      exact (hend f hf).1) (fun s hs f hf => c3 s hs f hf)
    have hW0 : (L3 95 12).toInt = zW (zpF I1 p h0 m F) N gl m 0 := by
      have := hclW m (Nat.le_refl _) 12 (by omega) (Or.inr rfl) 0 (by omega) (by rw [hths.2.1, hst.2.2.1])
      have e : 13 * (m - m) + 12 = 12 := by omega
      have this' : (L3 95 (13 * (m - m) + 12)).toInt = zW (zpF I1 p h0 m F) N gl m 0 := this
      rw [e] at this'
      exact this'
    have hin12 : z_in (Int32.ofInt 12) 78 = true := y_in_t (by decide) (by decide)
    have pre : ∃ M1, 99990000 ≤ M1 ∧ ∀ R, z_loop X z_cf z_ff (z_pu (z_run X z_cf z_ff (d + 7))) 227 (M1 + 1) 262 [(0, .ref 55), (2, .int h0), (4, .int x4')] [] (118, z_sd m, ce, sl, K2, L3, z_rr t u r q (z_gg m) (z_sf m)) = R → z_pu (z_run X z_cf z_ff (d + 8)) 227 [.ref 55, .int a, .int h0, .int v] (118, z_sd m, ce, sl, I, L, z_rr t u r q (z_gg m) (z_sf m)) = R := by
      obtain ⟨M1, p1, p2⟩ := a4 (99999997 - 704 * m)
      obtain ⟨M2, p3, p4⟩ := b4 (M1 - 40)
      refine ⟨M2 - 28 * m - 1, by omega, fun R hR => ?_⟩
      refine z_en X (d + 5) _ _ [(0, .ref 55), (1, .int a), (2, .int h0), (3, .int v)] _ _ rfl rfl rfl ?_
      rw [show (100000000 : Nat) = (99999997 - 704 * m + 704 * m + 1) + 2 by omega, zt_M_plan_0 X (d + 4), if_neg (by rw [y_mt0]; omega), if_neg (by rw [y_mt0]; omega), if_neg (by rw [y_mh0]; omega), if_neg (by rw [y_i_eq, y_i0]; omega), ← hI1, p2, show M1 = (M1 - 40) + 3 * 13 + 1 by omega, p4, show M2 = (M2 - 28 * m - 1 + 1) + 28 * m by omega, c5]
      exact hR
    obtain ⟨M1, p1, p2⟩ := pre
    have k2f : ∀ x, x ≠ 55 → x ≠ 97 → K2 x = I x := fun x x1 x2 => by rw [a1 x x2, i1r x x1]
    have k25 : ∀ j, j ≠ 0 → j ≠ 72 → K2 55 j = I 55 j := fun j j1 j2 => by rw [a1 55 (by omega), i15 j j1 j2]
    have k20 : K2 55 0 = Int32.ofInt 0 := by rw [a1 55 (by omega), i10]
    have x4n : x4' < 0 := by
      rw [y_i_lt, y_i0]
      omega
    by_cases cw : zW (zpF I1 p h0 m F) N gl m 0 = zNV
    · refine ⟨K2, L3, Int32.ofInt (-1), p2 _ ?_, fun x x1 _ _ _ x5 => k2f x x1 x5, fun j j0 _ j2 => k25 j j0 j2, k20, fun x x1 x2 => by rw [c1 x x1, b1 x x1 x2], Or.inl ⟨Or.inr (by rw [← zpF_c hF1]; exact cw), rfl, k25 65 (by omega) (by omega), k2f 92 (by omega) (by omega), k2f 93 (by omega) (by omega), k2f 94 (by omega) (by omega)⟩⟩
      rw [zb_M_plan_262, if_pos x4n, hin12, z_gd_t, if_pos (by rw [z_lg_eq, hW0, hN]; omega)]
    · have hWr := zW_r hpok N gl m 0
      obtain ⟨B, hB⟩ : ∃ B, B = zW (zpF I1 p h0 m F) N gl m 0 := ⟨_, rfl⟩
      rw [← hB] at hW0 cw hWr
      obtain ⟨L4, x6', e0, e1, e2, e3, e4, e5⟩ := zr_sums X (d + 4) (z_sd m) ce sl K2 t u r q (z_gg m) (z_sf m) (fun s f k => ztb I1 p P h0 (zth I1) s f k) h5 (fun s hs f => hTok s hs f) hI97 h0 (L3 95 12) m (Nat.le_refl _) L3 (K2 55 1 - Int32.ofInt 1) k2m' (by
        intro s s1 s2 k hk
        have e : s = m := by omega
        rw [e, c1 96 (by omega), (hend k hk).2]
        exact rng0 _ _)
      rw [hW0] at e3
      have hclS := zcl_S (I := I1) (p := p) (h0 := h0) (B := B) (w := fun s f => (L4 96 (13 * s + f)).toInt) h5 hpok hst hths hgl (by
        intro f hf
        show (L4 96 (13 * m + f)).toInt = _
        rw [e2 _ (by omega), c1 96 (by omega)]
        exact (hend f hf).2) (fun s hs f hf => e3 s hs f hf)
      have hSn := (zWS hpok N gl (B := B) (by omega) m h5 0 (by omega)).2 (by rw [← hB]; exact cw) (by rw [← hB]; exact Int.le_refl _)
      have hF2 : zPF I1 K2 := ⟨fun x _ x2 x3 => a1 x (by omega), by rw [a1 55 (by omega)], by rw [a1 55 (by omega)]⟩
      have hrg : ∀ i, i < N → 1 ≤ (F i).toInt ∧ (F i).toInt ≤ 60000 := zStp_rng hst ha0 ha1 hrP
      have htb : ∀ s f k, ztb K2 p P h0 (zth K2) s f k = ztb I1 p P h0 (zth I1) s f k := by
        intro s f k
        unfold ztb
        rw [k2th, zPF_pp hF2]
      obtain ⟨K5, g1, g2, g3, g4, g5⟩ := zr_keeps X d m ce sl K2 L4 t u r q (P := P) (N := N) (gl := gl) (zPF_S hF2 hS1) (zPF_L hF2 hL1) h0 (by omega) hh1 hst (by rw [k2th]; exact hths) hrg (B := B) (L3 95 12) hW0
        (fun s hs f hf k hk => by rw [htb]; exact hI97 s hs f hf k hk)
        (fun s hs k hk => by have := e4 s hs k hk; omega)
        (fun r hr f hf hf2 i hi he => by rw [k2th] at he; rw [zpF_c hF2]; exact hclS r hr f hf hf2 i hi he)
        (by rw [zpF_c hF2]; exact hSn)
      rw [zpF_c hF2, zpF_c hF1, (zPF_d hF2).1, (zPF_d hF2).2, (zPF_d hF1).1, (zPF_d hF1).2] at g5
      rw [zpF_c hF1] at hB
      have hr32 : (L3 95 12).toInt32.toInt = B := by rw [y_li _ (by omega) (by omega), hW0]
      refine ⟨K5, L4, (L3 95 12).toInt32, p2 _ ?_, ?_, ?_, ?_, ?_, Or.inr ⟨by omega, by rw [← hB]; exact cw, by rw [← hB]; exact hr32, g4, ?_⟩⟩
      · rw [zb_M_plan_262, if_pos x4n, hin12, z_gd_t, if_neg (by rw [z_lg_eq, hW0, hN]; omega), show M1 = (M1 - 28 * m - 2 + 1 + 1) + 28 * m by omega, e5, zb_M_plan_338, if_pos (by rw [y_i_lt, y_i0]; omega), g1, z_b0_v, zb_M_plan_395]
      · intro x x1 x2 x3 x4 x5
        rw [g2 x x1 x2 x3 x4, k2f x x1 x5]
      · intro j j0 j1 j2
        rw [g3 j j1, k25 j j0 j2]
      · rw [g3 0 (by omega), k20]
      · intro x x1 x2
        rw [e1 x x2, c1 x x1, b1 x x1 x2]
      · intro s hs
        rw [← hB]
        have := g5 s hs
        rw [zPF_hw hF2, zPF_hw hF1, zPF_gp hF2, zPF_gp hF1] at this
        exact this
def zQL (m t u r q ce sl : Nat) (I : Nat → Nat → Int32) (L : Nat → Nat → Int64) (A B AL : List Nat) (G : (Nat → Nat → Int32) → Prop) (w : ZW) : Prop :=
  ∃ (ce' sl' : Nat) (J : Nat → Nat → Int32) (L' : Nat → Nat → Int64), w = zw m t u r q ce' sl' J L' ∧ ce' ≤ ce + 1 ∧ sl' ≤ sl + 6 ∧ zFr A B I J ∧ (∀ a, a ≠ 117 → a ∉ AL → L' a = L a) ∧ G J
theorem zo_plan (X : ZX) (d m ce sl : Nat) (I : Nat → Nat → Int32) (L : Nat → Nat → Int64) (t u r q : Nat) {C p : Nat} (hS : zg_S C m I) (hL : zg_L p I) (hP : zg_P I) (hK : zg_K m I) (a h v : Int32) : zOL X (d + 200) 264 [.ref 0, .int a, .int h, .int v, .ref 117] 227 [.ref 55, .int a, .int h, .int v] (118, z_sd m, ce, sl, I, L, z_rr t u r q (z_gg m) (z_sf m)) (zQL m t u r q ce sl I L [30, 32, 33, 34, 35, 36, 37, 38, 92, 93, 94, 97] [65, 72] [95, 96] (fun J => zg_P J ∧ zg_K m J ∧ zFs I J)) := by
  by_cases c : (1 ≤ a.toInt ∧ a.toInt ≤ 60000) ∧ (1 ≤ h.toInt ∧ h.toInt ≤ 99) ∧ (1 ≤ v.toInt ∧ v.toInt ≤ 60000)
  · obtain ⟨⟨ha0, ha1⟩, ⟨hh0, hh1⟩, hv0, hv1⟩ := c
    obtain ⟨P1, P2, P3, P4, P5, P6⟩ := id hP
    obtain ⟨J, res, F, N, gl, a1, a2, a3, a4, a5, a6, a7⟩ := zr_findPlan X (d + 185) m ce sl I L t u r q hS hL hP a h v ha0 ha1 (by omega) hh1
    have hFJ : zPF I J := ⟨fun x x1 _ _ => a4 x x1, by rw [a4 55 (by omega)], by rw [a4 55 (by omega)]⟩
    have J91 : J 91 = I 91 := a4 91 (by omega)
    have hPn : (J 55 64).toInt = ((I 30 2).toInt.toNat : Nat) := by rw [a4 55 (by omega), ← P1]; omega
    obtain ⟨K, L', res', b1, b2, b3, b4, b5, b6⟩ := zr_Mplan X (d + 192) m ce sl J (z_up L 117 0 res.toInt64) t u r q (N := N) (gl := gl) (F := F) (zPF_S hFJ hS) (zPF_L hFJ hL) hPn (by omega) (fun j hj => by rw [J91, ← P4]; exact P5 j (by omega)) a h v ha0 ha1 hh0 hh1 hv0 hv1 (by rw [J91, ← P4]; exact a1) a2
    have b6' : zPlM J K p m h F N gl res' := b6
    unfold zPlM at b6'
    rw [zpF_c hFJ, (zPF_d hFJ).1, (zPF_d hFJ).2] at b6'
    -- both say the same
    have same : res' = res ∧ zg_K m K := by
      have k30 : K 30 13 = J 30 13 := by rw [b2 30 (by omega) (by omega) (by omega) (by omega) (by omega)]
      have k36 : K 36 = J 36 := b2 36 (by omega) (by omega) (by omega) (by omega) (by omega)
      have k37 : K 37 = J 37 := b2 37 (by omega) (by omega) (by omega) (by omega) (by omega)
      have k38 : K 38 = J 38 := b2 38 (by omega) (by omega) (by omega) (by omega) (by omega)
      rcases a7 with ⟨q1, q2, q3, q4, q5, q6⟩ | ⟨q1, q2, q3, q4, q5⟩
      · rcases b6' with ⟨r1, r2, r3, r4, r5, r6⟩ | ⟨r1, r2, r3, r4, r5⟩
        · refine ⟨by rw [r2, q2], zg_K_fr hK ?_ ?_ ?_ ?_ ?_ ?_ ?_ ?_⟩
          · rw [k30, q3]
          · rw [r3, a4 55 (by omega)]
          · rw [k36, q4]
          · rw [k37, q5]
          · rw [k38, q6]
          · rw [r4, a4 92 (by omega)]
          · rw [r5, a4 93 (by omega)]
          · rw [r6, a4 94 (by omega)]
        · rcases q1 with q1 | q1
          · omega
          · exact absurd q1 r2
      · rcases b6' with ⟨r1, r2, r3, r4, r5, r6⟩ | ⟨r1, r2, r3, r4, r5⟩
        · rcases r1 with r1 | r1
          · omega
          · exact absurd r1 q2
        · refine ⟨y_i_eq.mpr (by rw [r3, q3]), ?_, ?_, ?_, ?_⟩
          · rw [k30, q4, r4]
          · rw [k30, q4]
            have := hS.1
            rw [y_on (by omega)]
            omega
          · rw [k30, q4]
            have := hS.1
            rw [y_on (by omega)]
            exact Int.le_refl _
          · intro k hk
            rw [k30, q4] at hk
            have := hS.1
            rw [y_on (by omega)] at hk
            obtain ⟨e1, e2, e3⟩ := q5 k (by omega)
            obtain ⟨f1, f2, f3⟩ := r5 k (by omega)
            rw [k36, k37, k38, e1, e2, e3, f1, f2, f3, zPF_hw hFJ, zPF_gp hFJ]
            exact ⟨rfl, rfl, rfl⟩
    refine ⟨Int32.ofInt 0, res, zw m t u r q ce sl J (z_up L 117 0 res.toInt64), zw m t u r q ce sl K L', ?_, ?_, ?_, ?_, ⟨ce, sl, K, L', rfl, by omega, by omega, ⟨?_, ?_⟩, ?_, ?_, same.2, ?_⟩⟩
    · refine z_en X (d + 197) _ _ [(0, .ref 0), (1, .int a), (2, .int h), (3, .int v), (4, .ref 117)] _ _ rfl rfl rfl ?_
      have e1 : z_pu (z_run X z_cf z_ff (d + 199)) 150 [.ref 0, .int a, .int h, .int v] (118, z_sd m, ce, sl, I, L, z_rr t u r q (z_gg m) (z_sf m)) = some (.inl (some (.int res)), (118, z_sd m, ce, sl, J, L, z_rr t u r q (z_gg m) (z_sf m))) := by
        refine z_en X (d + 196) _ _ [(0, .ref 0), (1, .int a), (2, .int h), (3, .int v)] _ _ rfl rfl rfl ?_
        rw [zb_X_plan_0, if_neg (by rw [y_th0]; omega), if_neg (by rw [y_ha0]; omega), if_neg (by rw [y_th0]; omega), a3, z_bi_v, zb_X_plan_39]
      rw [zb_L_plan_0, e1, z_bi_v, zb_L_plan_10, z_gd_inc (by omega) (by omega) (by omega)]
      rfl
    · rw [same.1] at b1
      exact b1
    · show K 55 0 = Int32.ofInt 0
      exact b4
    · intro _
      show L' 117 0 = res.toInt64
      rw [b5 117 (by omega) (by omega), z_up_s]
    · intro x x0 x1 x2
      simp only [List.mem_cons, List.not_mem_nil, or_false, not_or] at x2
      rw [b2 x x1 (by omega) (by omega) (by omega) (by omega)]
      by_cases c31 : x = 31
      · rw [c31]
        exact a5
      · exact a4 x (by omega)
    · intro j j0 x2
      simp only [List.mem_cons, List.not_mem_nil, or_false, not_or] at x2
      rw [b3 j j0 (by omega) (by omega), a4 55 (by omega)]
    · intro x x1 x2
      simp only [List.mem_cons, List.not_mem_nil, or_false, not_or] at x2
      rw [b5 x (by omega) (by omega)]
      exact z_up117 L _ x x1
    · have k30 : ∀ j, K 30 j = J 30 j := fun j => by rw [b2 30 (by omega) (by omega) (by omega) (by omega) (by omega)]
      unfold zg_P
      rw [k30 2, a6, b3 64 (by omega) (by omega) (by omega), a4 55 (by omega), b2 31 (by omega) (by omega) (by omega) (by omega) (by omega), a5, b2 91 (by omega) (by omega) (by omega) (by omega) (by omega), J91]
      exact hP
    · intro k hk
      have := z_sd_ge k
      rw [b2 _ (by omega) (by omega) (by omega) (by omega) (by omega), a4 _ (by omega)]
  · have fin : zQL m t u r q ce sl I L [30, 32, 33, 34, 35, 36, 37, 38, 92, 93, 94, 97] [65, 72] [95, 96] (fun J => zg_P J ∧ zg_K m J ∧ zFs I J) (zw m t u r q (ce + 1) (sl + 6) (z_up (z_up I 55 0 (Int32.ofInt 0)) 55 0 (Int32.ofInt 1)) L) :=
      ⟨ce + 1, sl + 6, _, L, rfl, by omega, by omega, ⟨fun x _ h2 _ => by rw [z_up_r _ _ _ _ _ h2, z_up_r _ _ _ _ _ h2], fun j h2 _ => by rw [z_up_j _ _ _ _ _ h2, z_up_j _ _ _ _ _ h2]⟩, fun _ _ _ => rfl, by
        unfold zg_P at *
        exact hP, zg_K_fr hK rfl rfl rfl rfl rfl rfl rfl rfl, zFs_up00 I _ _⟩
    refine ⟨Int32.ofInt 1, Int32.ofInt 0, zw m t u r q (ce + 1) (sl + 6) I L, zw m t u r q (ce + 1) (sl + 6) (z_up (z_up I 55 0 (Int32.ofInt 0)) 55 0 (Int32.ofInt 1)) L, ?_, ?_, rfl, fun hk => absurd hk (by decide), fin⟩
    · refine z_en X (d + 197) _ _ [(0, .ref 0), (1, .int a), (2, .int h), (3, .int v), (4, .ref 117)] _ _ rfl rfl rfl ?_
      have e : z_pu (z_run X z_cf z_ff (d + 199)) 150 [.ref 0, .int a, .int h, .int v] (118, z_sd m, ce, sl, I, L, z_rr t u r q (z_gg m) (z_sf m)) = some (.inr 1, (118, z_sd m, ce + 1, sl + 6, I, L, z_rr t u r q (z_gg m) (z_sf m))) := by
        refine z_en X (d + 196) _ _ [(0, .ref 0), (1, .int a), (2, .int h), (3, .int v)] _ _ rfl rfl rfl ?_
        rw [zb_X_plan_0]
        by_cases c1 : 1 ≤ a.toInt ∧ a.toInt ≤ 60000
        · rw [if_neg (by rw [y_th0]; omega)]
          by_cases c2 : 1 ≤ h.toInt ∧ h.toInt ≤ 99
          · rw [if_neg (by rw [y_ha0]; omega), if_pos (by rw [y_th0]; omega)]
          · rw [if_pos (by rw [y_ha0]; omega)]
        · rw [if_pos (by rw [y_th0]; omega)]
      rw [zb_L_plan_0, e, z_bi_e]
      exact z_x1 rfl rfl
    · refine z_en X (d + 197) _ _ [(0, .ref 55), (1, .int a), (2, .int h), (3, .int v)] _ _ rfl rfl rfl ?_
      rw [zt_M_plan_0 X (d + 196)]
      by_cases c1 : 1 ≤ a.toInt ∧ a.toInt ≤ 60000
      · rw [if_neg (by rw [y_mt0]; omega)]
        by_cases c2 : 1 ≤ v.toInt ∧ v.toInt ≤ 60000
        · rw [if_neg (by rw [y_mt0]; omega), if_pos (by rw [y_mh0]; omega)]
        · rw [if_pos (by rw [y_mt0]; omega)]
      · rw [if_pos (by rw [y_mt0]; omega)]
