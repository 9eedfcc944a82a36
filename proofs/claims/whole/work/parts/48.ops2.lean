/-! CALLS, 2: feed -/
def z_byC (v s : Int32) : Int32 := ((v.toUInt32 >>> (s.toUInt32 &&& Int32.toUInt32 31)).toInt32) &&& (Int32.ofInt 255)
def z_byM (v s : Int32) : Int32 := (v >>> (s &&& 31)) &&& (Int32.ofInt 255)
def ztp (a f g : Nat) (J : Nat → Nat → Int32) (k : Nat) (b3 b2 b1 b0 : Int32) : Nat → Nat → Int32 :=
  z_up (z_up (z_up (z_up (z_up (z_up (z_up (z_up J a k b3) f g (Int32.ofNat (k + 1))) a (k + 1) b2) f g (Int32.ofNat (k + 2))) a (k + 2) b1) f g (Int32.ofNat (k + 3))) a (k + 3) b0) f g (Int32.ofNat (k + 4))
def zb4 (F : Nat → Int32) (k : Nat) (b3 b2 b1 b0 : Int32) (j : Nat) : Int32 := if j = k + 3 then b0 else if j = k + 2 then b1 else if j = k + 1 then b2 else if j = k then b3 else F j
theorem ztp_row {a f g : Nat} (haf : a ≠ f) (J : Nat → Nat → Int32) (k : Nat) (b3 b2 b1 b0 : Int32) : ztp a f g J k b3 b2 b1 b0 a = zb4 (J a) k b3 b2 b1 b0 := by
  funext j
  unfold ztp zb4
  rw [z_up_rj _ _ _ _ _ _ haf, y_at, z_up_rj _ _ _ _ _ _ haf, y_at, z_up_rj _ _ _ _ _ _ haf, y_at, z_up_rj _ _ _ _ _ _ haf, y_at]
theorem ztp_n (a f g : Nat) (J : Nat → Nat → Int32) (k : Nat) (b3 b2 b1 b0 : Int32) : ztp a f g J k b3 b2 b1 b0 f g = Int32.ofNat (k + 4) := by
  unfold ztp
  rw [z_up_s]
theorem ztp_o {a f g b : Nat} (h1 : b ≠ a) (h2 : b ≠ f) (J : Nat → Nat → Int32) (k : Nat) (b3 b2 b1 b0 : Int32) : ztp a f g J k b3 b2 b1 b0 b = J b := by
  unfold ztp
  rw [z_up_r _ _ _ _ _ h2, z_up_r _ _ _ _ _ h1, z_up_r _ _ _ _ _ h2, z_up_r _ _ _ _ _ h1, z_up_r _ _ _ _ _ h2, z_up_r _ _ _ _ _ h1, z_up_r _ _ _ _ _ h2, z_up_r _ _ _ _ _ h1]
theorem ztp_j {a f g j : Nat} (h1 : f ≠ a) (h2 : j ≠ g) (J : Nat → Nat → Int32) (k : Nat) (b3 b2 b1 b0 : Int32) : ztp a f g J k b3 b2 b1 b0 f j = J f j := by
  unfold ztp
  rw [z_up_j _ _ _ _ _ h2, z_up_rj _ _ _ _ _ _ h1, z_up_j _ _ _ _ _ h2, z_up_rj _ _ _ _ _ _ h1, z_up_j _ _ _ _ _ h2, z_up_rj _ _ _ _ _ _ h1, z_up_j _ _ _ _ _ h2, z_up_rj _ _ _ _ _ _ h1]
abbrev ztC (J : Nat → Nat → Int32) (k : Nat) (v : Int32) : Nat → Nat → Int32 := ztp 6 0 2 J k (z_byC v (Int32.ofInt 24)) (z_byC v (Int32.ofInt 16)) (z_byC v (Int32.ofInt 8)) (z_byC v (Int32.ofInt 0))
abbrev ztM (J : Nat → Nat → Int32) (k : Nat) (v : Int32) : Nat → Nat → Int32 := ztp 69 55 17 J k (z_byM v (Int32.ofInt 24)) (z_byM v (Int32.ofInt 16)) (z_byM v (Int32.ofInt 8)) (z_byM v (Int32.ofInt 0))
theorem zr_tape_step (X : ZX) (call : ZC) (N n ce sl : Nat) (J : Nat → Nat → Int32) (L : Nat → Nat → Int64) (t u r q g : Nat) (st : Nat → Option Nat) (v s : Int32) {k : Nat} (hk : k < 400) (h0 : J 0 2 = Int32.ofNat k) (hs : ¬ s < 0) :
    z_loop X z_cf z_ff (z_pu call) 125 (N + 1) 3 [(0, .ref 0), (1, .int v), (2, .int s)] [] (118, n, ce, sl, J, L, z_rr t u r q g st) = z_loop X z_cf z_ff (z_pu call) 125 N 3 [(0, .ref 0), (1, .int v), (2, .int (s + Int32.ofInt (-8)))] [] (118, n, ce, sl, z_up (z_up J 6 k (z_byC v s)) 0 2 (Int32.ofNat (k + 1)), L, z_rr t u r q g st) := by
  rw [zb_X_tapeNumber_3, if_neg hs, if_neg (by rw [h0, y_i_le, y_on (by omega), y_oi (by omega) (by omega)]; omega), h0, z_onn (by omega), z_in_n (by omega) (by omega), z_gd_t, z_ofa (by omega)]
  rfl
theorem zr_tape (X : ZX) (d n ce sl : Nat) (J : Nat → Nat → Int32) (L : Nat → Nat → Int64) (t u r q g : Nat) (st : Nat → Option Nat) (v : Int32) {k : Nat} (hk : k ≤ 396) (h0 : J 0 2 = Int32.ofNat k) :
    z_pu (z_run X z_cf z_ff (d + 3)) 125 [.ref 0, .int v] (118, n, ce, sl, J, L, z_rr t u r q g st) = some (.inl none, (118, n, ce, sl, ztC J k v, L, z_rr t u r q g st)) := by
  refine z_en X d _ _ [(0, .ref 0), (1, .int v)] _ _ rfl rfl rfl ?_
  have e1 : Int32.ofInt 24 + Int32.ofInt (-8) = Int32.ofInt 16 := by decide
  have e2 : Int32.ofInt 16 + Int32.ofInt (-8) = Int32.ofInt 8 := by decide
  have e3 : Int32.ofInt 8 + Int32.ofInt (-8) = Int32.ofInt 0 := by decide
  have e4 : (Int32.ofInt 0 + Int32.ofInt (-8)) < 0 := by decide
  rw [zb_X_tapeNumber_0, zr_tape_step (k := k) _ _ _ _ _ _ _ _ _ _ _ _ _ _ _ _ (by omega) h0 (by decide), e1, zr_tape_step (k := k + 1) _ _ _ _ _ _ _ _ _ _ _ _ _ _ _ _ (by omega) (z_up_s _ _ _ _) (by decide), e2, zr_tape_step (k := k + 2) _ _ _ _ _ _ _ _ _ _ _ _ _ _ _ _ (by omega) (z_up_s _ _ _ _) (by decide), e3, zr_tape_step (k := k + 3) _ _ _ _ _ _ _ _ _ _ _ _ _ _ _ _ (by omega) (z_up_s _ _ _ _) (by decide), zb_X_tapeNumber_3, if_pos e4]
  rfl
theorem zr_lays_step (X : ZX) (call : ZC) (N n ce sl : Nat) (J : Nat → Nat → Int32) (L : Nat → Nat → Int64) (t u r q g : Nat) (st : Nat → Option Nat) (v s : Int32) {k : Nat} (hk : k < 400) (h0 : J 55 17 = Int32.ofNat k) (hs : ¬ s < 0) :
    z_loop X z_cf z_ff (z_pu call) 182 (N + 1) 3 [(0, .ref 55), (1, .int v), (2, .int s)] [] (118, n, ce, sl, J, L, z_rr t u r q g st) = z_loop X z_cf z_ff (z_pu call) 182 N 3 [(0, .ref 55), (1, .int v), (2, .int (s + Int32.ofInt (-8)))] [] (118, n, ce, sl, z_up (z_up J 69 k (z_byM v s)) 55 17 (Int32.ofNat (k + 1)), L, z_rr t u r q g st) := by
  rw [zb_M_lays_3, if_neg hs, h0, z_onn (by omega), z_in_n (by omega) (by omega), z_gd_t, z_ofa (by omega)]
  rfl
theorem zr_lays (X : ZX) (d n ce sl : Nat) (J : Nat → Nat → Int32) (L : Nat → Nat → Int64) (t u r q g : Nat) (st : Nat → Option Nat) (v : Int32) {k : Nat} (hk : k ≤ 396) (h0 : J 55 17 = Int32.ofNat k) :
    z_pu (z_run X z_cf z_ff (d + 3)) 182 [.ref 55, .int v] (118, n, ce, sl, J, L, z_rr t u r q g st) = some (.inl none, (118, n, ce, sl, ztM J k v, L, z_rr t u r q g st)) := by
  refine z_en X d _ _ [(0, .ref 55), (1, .int v)] _ _ rfl rfl rfl ?_
  have e1 : Int32.ofInt 24 + Int32.ofInt (-8) = Int32.ofInt 16 := by decide
  have e2 : Int32.ofInt 16 + Int32.ofInt (-8) = Int32.ofInt 8 := by decide
  have e3 : Int32.ofInt 8 + Int32.ofInt (-8) = Int32.ofInt 0 := by decide
  have e4 : (Int32.ofInt 0 + Int32.ofInt (-8)) < 0 := by decide
  rw [zb_M_lays_0, zr_lays_step (k := k) _ _ _ _ _ _ _ _ _ _ _ _ _ _ _ _ (by omega) h0 (by decide), e1, zr_lays_step (k := k + 1) _ _ _ _ _ _ _ _ _ _ _ _ _ _ _ _ (by omega) (z_up_s _ _ _ _) (by decide), e2, zr_lays_step (k := k + 2) _ _ _ _ _ _ _ _ _ _ _ _ _ _ _ _ (by omega) (z_up_s _ _ _ _) (by decide), e3, zr_lays_step (k := k + 3) _ _ _ _ _ _ _ _ _ _ _ _ _ _ _ _ (by omega) (z_up_s _ _ _ _) (by decide), zb_M_lays_3, if_pos e4]
  rfl
theorem z_by_eq (v : Int32) : z_byC v (Int32.ofInt 24) = z_byM v (Int32.ofInt 24) ∧ z_byC v (Int32.ofInt 16) = z_byM v (Int32.ofInt 16) ∧ z_byC v (Int32.ofInt 8) = z_byM v (Int32.ofInt 8) ∧ z_byC v (Int32.ofInt 0) = z_byM v (Int32.ofInt 0) := ⟨y_b24 v, y_b16 v, y_b8 v, y_b0 v⟩
theorem ztCM {I J : Nat → Nat → Int32} (h : I 6 = J 69) (k : Nat) (v : Int32) : ztC I k v 6 = ztM J k v 69 := by
  obtain ⟨a, b, c, d⟩ := z_by_eq v
  show ztp 6 0 2 I k _ _ _ _ 6 = ztp 69 55 17 J k _ _ _ _ 69
  rw [ztp_row (by decide), ztp_row (by decide), h, a, b, c, d]
theorem ztC_o {b : Nat} (h1 : b ≠ 6) (h2 : b ≠ 0) (J : Nat → Nat → Int32) (k : Nat) (v : Int32) : ztC J k v b = J b := ztp_o h1 h2 J k _ _ _ _
theorem ztM_o {b : Nat} (h1 : b ≠ 69) (h2 : b ≠ 55) (J : Nat → Nat → Int32) (k : Nat) (v : Int32) : ztM J k v b = J b := ztp_o h1 h2 J k _ _ _ _
theorem ztM_j {j : Nat} (h2 : j ≠ 17) (J : Nat → Nat → Int32) (k : Nat) (v : Int32) : ztM J k v 55 j = J 55 j := ztp_j (by decide) h2 J k _ _ _ _
theorem zo_feed (X : ZX) (d m ce sl : Nat) (I : Nat → Nat → Int32) (L : Nat → Nat → Int64) (t u r q : Nat) (hG : zg_T I) (a b c e f : Int32) : zOX X (d + 200) 124 [.ref 0, .int a, .int b, .int c, .int e, .int f] 181 [.ref 55, .int a, .int b, .int c, .int e, .int f] (118, z_sd m, ce, sl, I, L, z_rr t u r q (z_gg m) (z_sf m)) (zQ m t u r q ce sl I L [0, 6, 69] [17] (fun J => zg_T J ∧ zFs I J)) := by
  obtain ⟨h1, h2, h3, h4⟩ := hG
  obtain ⟨k, hk⟩ : ∃ k : Nat, (I 0 2).toInt = k := ⟨(I 0 2).toInt.toNat, by omega⟩
  have k1 : I 0 2 = Int32.ofNat k := y_i_eq.mpr (by rw [hk, y_on (by omega)])
  have k2 : I 55 17 = Int32.ofNat k := by rw [← h1, k1]
  by_cases c1 : k ≤ 380
  · obtain ⟨J1, hJ1⟩ : ∃ J, J = ztC I k a := ⟨_, rfl⟩
    obtain ⟨J2, hJ2⟩ : ∃ J, J = ztC J1 (k + 4) b := ⟨_, rfl⟩
    obtain ⟨J3, hJ3⟩ : ∃ J, J = ztC J2 (k + 8) c := ⟨_, rfl⟩
    obtain ⟨J4, hJ4⟩ : ∃ J, J = ztC J3 (k + 12) e := ⟨_, rfl⟩
    obtain ⟨J5, hJ5⟩ : ∃ J, J = ztC J4 (k + 16) f := ⟨_, rfl⟩
    obtain ⟨K0, hK0⟩ : ∃ J, J = z_up J5 55 0 (Int32.ofInt 0) := ⟨_, rfl⟩
    obtain ⟨K1, hK1⟩ : ∃ J, J = ztM K0 k a := ⟨_, rfl⟩
    obtain ⟨K2, hK2⟩ : ∃ J, J = ztM K1 (k + 4) b := ⟨_, rfl⟩
    obtain ⟨K3, hK3⟩ : ∃ J, J = ztM K2 (k + 8) c := ⟨_, rfl⟩
    obtain ⟨K4, hK4⟩ : ∃ J, J = ztM K3 (k + 12) e := ⟨_, rfl⟩
    obtain ⟨K5, hK5⟩ : ∃ J, J = ztM K4 (k + 16) f := ⟨_, rfl⟩
    have n1 : J1 0 2 = Int32.ofNat (k + 4) := by rw [hJ1]; exact ztp_n _ _ _ _ _ _ _ _ _
    have n2 : J2 0 2 = Int32.ofNat (k + 8) := by rw [hJ2]; exact ztp_n _ _ _ _ _ _ _ _ _
    have n3 : J3 0 2 = Int32.ofNat (k + 12) := by rw [hJ3]; exact ztp_n _ _ _ _ _ _ _ _ _
    have n4 : J4 0 2 = Int32.ofNat (k + 16) := by rw [hJ4]; exact ztp_n _ _ _ _ _ _ _ _ _
    have n5 : J5 0 2 = Int32.ofNat (k + 20) := by rw [hJ5]; exact ztp_n _ _ _ _ _ _ _ _ _
    have o5 : ∀ x, x ≠ 6 → x ≠ 0 → J5 x = I x := by
      intro x x1 x2
      rw [hJ5, ztC_o x1 x2, hJ4, ztC_o x1 x2, hJ3, ztC_o x1 x2, hJ2, ztC_o x1 x2, hJ1, ztC_o x1 x2]
    have p0 : K0 55 17 = Int32.ofNat k := by rw [hK0, z_up_j _ _ _ _ _ (by omega), o5 55 (by omega) (by omega), k2]
    have p1 : K1 55 17 = Int32.ofNat (k + 4) := by rw [hK1]; exact ztp_n _ _ _ _ _ _ _ _ _
    have p2 : K2 55 17 = Int32.ofNat (k + 8) := by rw [hK2]; exact ztp_n _ _ _ _ _ _ _ _ _
    have p3 : K3 55 17 = Int32.ofNat (k + 12) := by rw [hK3]; exact ztp_n _ _ _ _ _ _ _ _ _
    have p4 : K4 55 17 = Int32.ofNat (k + 16) := by rw [hK4]; exact ztp_n _ _ _ _ _ _ _ _ _
    have p5 : K5 55 17 = Int32.ofNat (k + 20) := by rw [hK5]; exact ztp_n _ _ _ _ _ _ _ _ _
    have q5 : ∀ x, x ≠ 69 → x ≠ 55 → K5 x = J5 x := by
      intro x x1 x2
      rw [hK5, ztM_o x1 x2, hK4, ztM_o x1 x2, hK3, ztM_o x1 x2, hK2, ztM_o x1 x2, hK1, ztM_o x1 x2, hK0, z_up_r _ _ _ _ _ x2]
    have j5 : ∀ j, j ≠ 17 → j ≠ 0 → K5 55 j = J5 55 j := by
      intro j x1 x2
      rw [hK5, ztM_j x1, hK4, ztM_j x1, hK3, ztM_j x1, hK2, ztM_j x1, hK1, ztM_j x1, hK0, z_up_j _ _ _ _ _ x2]
    have r1 : J1 6 = K1 69 := by
      rw [hJ1, hK1]
      refine ztCM ?_ k a
      rw [hK0, z_up_r _ _ _ _ _ (by omega), o5 69 (by omega) (by omega), h4]
    have r2 : J2 6 = K2 69 := by rw [hJ2, hK2]; exact ztCM r1 _ b
    have r3 : J3 6 = K3 69 := by rw [hJ3, hK3]; exact ztCM r2 _ c
    have r4 : J4 6 = K4 69 := by rw [hJ4, hK4]; exact ztCM r3 _ e
    have r5 : J5 6 = K5 69 := by rw [hJ5, hK5]; exact ztCM r4 _ f
    refine ⟨Int32.ofNat (k + 20), zw m t u r q ce sl J5 L, zw m t u r q ce sl K5 L, ?_, ?_, ⟨ce, sl, K5, L, rfl, by omega, by omega, ⟨?_, ?_⟩, fun _ _ => rfl, ⟨?_, ?_, ?_, ?_⟩, ?_⟩⟩
    · refine z_en X (d + 197) _ _ [(0, .ref 0), (1, .int a), (2, .int b), (3, .int c), (4, .int e), (5, .int f)] _ _ rfl rfl rfl ?_
      rw [zb_X_feed_0, if_pos (by rw [k1, y_i_le, y_on (by omega), y_oi (by omega) (by omega)]; omega), zr_tape X (d + 196) _ _ _ _ _ _ _ _ _ _ _ a (k := k) (by omega) k1, ← hJ1, z_b0_v, zb_X_feed_17, zr_tape X (d + 196) _ _ _ _ _ _ _ _ _ _ _ b (k := k + 4) (by omega) n1, ← hJ2, z_b0_v, zb_X_feed_22, zr_tape X (d + 196) _ _ _ _ _ _ _ _ _ _ _ c (k := k + 8) (by omega) n2, ← hJ3, z_b0_v, zb_X_feed_27, zr_tape X (d + 196) _ _ _ _ _ _ _ _ _ _ _ e (k := k + 12) (by omega) n3, ← hJ4, z_b0_v, zb_X_feed_33, zr_tape X (d + 196) _ _ _ _ _ _ _ _ _ _ _ f (k := k + 16) (by omega) n4, ← hJ5, z_b0_v, zb_X_feed_39, n5]
    · refine z_en X (d + 197) _ _ [(0, .ref 55), (1, .int a), (2, .int b), (3, .int c), (4, .int e), (5, .int f)] _ _ rfl rfl rfl ?_
      have o17 : J5 55 17 = Int32.ofNat k := by rw [o5 55 (by omega) (by omega), k2]
      rw [zb_M_feed_0, if_pos (by rw [o17, y_i_le, y_adl (by omega) (by omega) (by rw [y_on (by omega)]; omega) (by rw [y_on (by omega)]; omega), y_on (by omega), y_oi (by omega) (by omega)]; omega), ← hK0, zr_lays X (d + 196) _ _ _ _ _ _ _ _ _ _ _ a (k := k) (by omega) p0, ← hK1, z_b0_v, zb_M_feed_25, zr_lays X (d + 196) _ _ _ _ _ _ _ _ _ _ _ b (k := k + 4) (by omega) p1, ← hK2, z_b0_v, zb_M_feed_30, zr_lays X (d + 196) _ _ _ _ _ _ _ _ _ _ _ c (k := k + 8) (by omega) p2, ← hK3, z_b0_v, zb_M_feed_35, zr_lays X (d + 196) _ _ _ _ _ _ _ _ _ _ _ e (k := k + 12) (by omega) p3, ← hK4, z_b0_v, zb_M_feed_41, zr_lays X (d + 196) _ _ _ _ _ _ _ _ _ _ _ f (k := k + 16) (by omega) p4, ← hK5, z_b0_v, zb_M_feed_47, p5]
    · intro x x1 x2 x3
      simp only [List.mem_cons, List.not_mem_nil, or_false, not_or] at x3
      rw [q5 x (by omega) x2, o5 x (by omega) (by omega)]
    · intro j x2 x3
      simp only [List.mem_cons, List.not_mem_nil, or_false] at x3
      rw [j5 j x3 x2, o5 55 (by omega) (by omega)]
    · rw [q5 0 (by omega) (by omega), n5, p5]
    · rw [q5 0 (by omega) (by omega), n5, y_on (by omega)]
      omega
    · rw [q5 0 (by omega) (by omega), n5, y_on (by omega)]
      omega
    · rw [q5 6 (by omega) (by omega), r5]
    · intro k' _
      have hge := z_sd_ge k'
      rw [q5 _ (by omega) (by omega), o5 _ (by omega) (by omega)]
  · refine ⟨Int32.ofInt (-1), zw m t u r q ce sl I L, zw m t u r q ce sl (z_up I 55 0 (Int32.ofInt 0)) L, ?_, ?_, ⟨ce, sl, _, L, rfl, by omega, by omega, ⟨fun x _ x2 _ => z_up_r _ _ _ _ _ x2, fun j x2 _ => z_up_j _ _ _ _ _ x2⟩, fun _ _ => rfl, zg_T_fr ⟨h1, h2, h3, h4⟩ rfl rfl rfl rfl, fun k' _ => z_up_r _ _ _ _ _ (by have := z_sd_ge k'; omega)⟩⟩
    · refine z_en X (d + 197) _ _ [(0, .ref 0), (1, .int a), (2, .int b), (3, .int c), (4, .int e), (5, .int f)] _ _ rfl rfl rfl ?_
      rw [zb_X_feed_0, if_neg (by rw [k1, y_i_le, y_on (by omega), y_oi (by omega) (by omega)]; omega)]
    · refine z_en X (d + 197) _ _ [(0, .ref 55), (1, .int a), (2, .int b), (3, .int c), (4, .int e), (5, .int f)] _ _ rfl rfl rfl ?_
      rw [zb_M_feed_0, if_neg (by rw [k2, y_i_le, y_adl (by omega) (by omega) (by rw [y_on (by omega)]; omega) (by rw [y_on (by omega)]; omega), y_on (by omega), y_oi (by omega) (by omega)]; omega)]
