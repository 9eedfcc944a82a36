/-! MAIN, 5: a turn of the law's loop for each operation -/
theorem zOX_mono {X : ZX} {d yX yM : Nat} {aX aM : List Value} {w : ZW} {Q Q' : ZW → Prop} (h : zOX X d yX aX yM aM w Q) (hQ : ∀ w, Q w → Q' w) : zOX X d yX aX yM aM w Q' := by
  obtain ⟨b, w1, w2, e1, e2, hq⟩ := h
  exact ⟨b, w1, w2, e1, e2, hQ _ hq⟩
theorem zOL_mono {X : ZX} {d yX yM : Nat} {aX aM : List Value} {w : ZW} {Q Q' : ZW → Prop} (h : zOL X d yX aX yM aM w Q) (hQ : ∀ w, Q w → Q' w) : zOL X d yX aX yM aM w Q' := by
  obtain ⟨k, b, w1, w2, e1, e2, e3, e4, hq⟩ := h
  exact ⟨k, b, w1, w2, e1, e2, e3, e4, hQ _ hq⟩
theorem zOLB_mono {X : ZX} {d yX yM : Nat} {aX aM : List Value} {w : ZW} {Q Q' : ZW → Prop} (h : zOLB X d yX aX yM aM w Q) (hQ : ∀ w, Q w → Q' w) : zOLB X d yX aX yM aM w Q' := by
  obtain ⟨k, b, w1, w2, e0, e1, e2, e3, e4, hq⟩ := h
  exact ⟨k, b, w1, w2, e0, e1, e2, e3, e4, hQ _ hq⟩
theorem zNx_w {C ce sl : Nat} (w2 : ZW) (h : zNx C ce sl w2) : ∃ m t u r q ce sl I L, w2 = zw m t u r q ce sl I L := by
  obtain ⟨m, ce', sl', t, u, r, q, J, L', e, _⟩ := h
  exact ⟨m, t, u, r, q, ce', sl', J, L', e⟩
theorem z_end3 {x5 x6 : Int32} {l : Int64} {A B : ZR} (hl : x5 = 0 → l = x6.toInt64) : (if x5 = x5 then if x5 = 0 then z_gd (z_in (Int32.ofInt 0) 1) (if (lg_cmp l x6.toInt64) = 0 then A else B) else A else B) = A := by
  rw [if_pos rfl]
  by_cases c : x5 = 0
  · rw [if_pos c, z_gd_inc (by omega) (by omega) (by omega), hl c, z_lcs, if_pos rfl]
  · rw [if_neg c]
theorem z_endB {x5 x6 : Int32} {l : Int64} {A B : ZR} (hb : x6 = Int32.ofInt 0 ∨ x6 = Int32.ofInt 1) (hl : x5 = 0 → l = x6.toInt64) : (if x5 = x5 then if x5 = 0 then z_gd (z_in (Int32.ofInt 0) 1) (if x6 = 0 then if (lg_cmp l (Int64.ofInt 0)) = 0 then A else B else if (lg_cmp l (Int64.ofInt 1)) = 0 then A else B) else A else B) = A := by
  rw [if_pos rfl]
  by_cases c : x5 = 0
  · rw [if_pos c, z_gd_inc (by omega) (by omega) (by omega), hl c]
    rcases hb with hb | hb
    · rw [hb, if_pos (by decide), show (Int32.ofInt 0).toInt64 = Int64.ofInt 0 by decide, z_lcs, if_pos rfl]
    · rw [hb, if_neg (by decide), show (Int32.ofInt 1).toInt64 = Int64.ofInt 1 by decide, z_lcs, if_pos rfl]
  · rw [if_neg c]
set_option maxRecDepth 100000 in
theorem zs_0 (X : ZX) (d : Nat) {x4 : Int32} (hlt : ¬ (Int32.ofNat X.1 - Int32.ofInt 14) < x4) (h0 : z_in x4 X.1 = true) (hin : ∀ j : Int, 1 ≤ j → j ≤ 13 → z_in (x4 + Int32.ofInt j) X.1 = true) (hk : (X.2 x4.toNatClampNeg) &&& (Int32.ofInt 31) = Int32.ofInt 0) {C m t u r q ce sl : Nat} {I : Nat → Nat → Int32} {L : Nat → Nat → Int64} (hC : C ≤ 511) (h : zRel C m t u r q I L) : zTurn X (z_run X z_cf z_ff (d + 200)) x4 (zw m t u r q ce sl I L) (zNx C ce sl) := by
  obtain ⟨gS, ⟨p0, hp⟩, gT, gC, gP, gK, gO, gR, gU, gW, gV, gY, gTU, gRQ, gF⟩ := id h
  have hq := zo_stand X d m ce sl I L t u r q gS (X.2 ((x4 + (Int32.ofInt 1)).toNatClampNeg)) (X.2 ((x4 + (Int32.ofInt 2)).toNatClampNeg)) (X.2 ((x4 + (Int32.ofInt 3)).toNatClampNeg)) (X.2 ((x4 + (Int32.ofInt 4)).toNatClampNeg)) (X.2 ((x4 + (Int32.ofInt 5)).toNatClampNeg)) (X.2 ((x4 + (Int32.ofInt 6)).toNatClampNeg)) (X.2 ((x4 + (Int32.ofInt 7)).toNatClampNeg)) (X.2 ((x4 + (Int32.ofInt 8)).toNatClampNeg))
  refine zl_X (p := 232) (p1 := 235) (p' := 287) (p2 := 290) rfl (zOX_mono hq (fun w hw => zn_stand h hw)) (fun M => ?_) (fun M y W => ?_) (fun M y W => ?_)
  · rw [zl_23, if_neg hlt, z_gd_of h0, hk, if_pos rfl, z_gd_of (hin 1 (by decide) (by decide)), z_gd_of (hin 2 (by decide) (by decide)), z_gd_of (hin 3 (by decide) (by decide)), z_gd_of (hin 4 (by decide) (by decide)), z_gd_of (hin 5 (by decide) (by decide)), z_gd_of (hin 6 (by decide) (by decide)), z_gd_of (hin 7 (by decide) (by decide)), z_gd_of (hin 8 (by decide) (by decide))]
  · refine (zl_235 X _ M W x4 y).trans ?_
    rw [z_gd_of (hin 1 (by decide) (by decide)), z_gd_of (hin 2 (by decide) (by decide)), z_gd_of (hin 3 (by decide) (by decide)), z_gd_of (hin 4 (by decide) (by decide)), z_gd_of (hin 5 (by decide) (by decide)), z_gd_of (hin 6 (by decide) (by decide)), z_gd_of (hin 7 (by decide) (by decide)), z_gd_of (hin 8 (by decide) (by decide))]
  · exact (zl_290 X _ M W x4 y y).trans (if_pos rfl)
set_option maxRecDepth 100000 in
theorem zs_1 (X : ZX) (d : Nat) {x4 : Int32} (hlt : ¬ (Int32.ofNat X.1 - Int32.ofInt 14) < x4) (h0 : z_in x4 X.1 = true) (hin : ∀ j : Int, 1 ≤ j → j ≤ 13 → z_in (x4 + Int32.ofInt j) X.1 = true) (hk : (X.2 x4.toNatClampNeg) &&& (Int32.ofInt 31) = Int32.ofInt 1) {C m t u r q ce sl : Nat} {I : Nat → Nat → Int32} {L : Nat → Nat → Int64} (hC : C ≤ 511) (h : zRel C m t u r q I L) : zTurn X (z_run X z_cf z_ff (d + 200)) x4 (zw m t u r q ce sl I L) (zNx C ce sl) := by
  obtain ⟨gS, ⟨p0, hp⟩, gT, gC, gP, gK, gO, gR, gU, gW, gV, gY, gTU, gRQ, gF⟩ := id h
  have hq := zo_point X d m ce sl I L t u r q hp (X.2 ((x4 + (Int32.ofInt 1)).toNatClampNeg)) (X.2 ((x4 + (Int32.ofInt 2)).toNatClampNeg))
  refine zl_X (p := 308) (p1 := 311) (p' := 324) (p2 := 327) rfl (zOX_mono hq (fun w hw => zn_point h hw)) (fun M => ?_) (fun M y W => ?_) (fun M y W => ?_)
  · rw [zl_23, if_neg hlt, z_gd_of h0, hk, if_neg (by decide), if_pos rfl, z_gd_of (hin 1 (by decide) (by decide)), z_gd_of (hin 2 (by decide) (by decide))]
  · refine (zl_311 X _ M W x4 y).trans ?_
    rw [z_gd_of (hin 1 (by decide) (by decide)), z_gd_of (hin 2 (by decide) (by decide))]
  · exact (zl_327 X _ M W x4 y y).trans (if_pos rfl)
set_option maxRecDepth 100000 in
theorem zs_2 (X : ZX) (d : Nat) {x4 : Int32} (hlt : ¬ (Int32.ofNat X.1 - Int32.ofInt 14) < x4) (h0 : z_in x4 X.1 = true) (hin : ∀ j : Int, 1 ≤ j → j ≤ 13 → z_in (x4 + Int32.ofInt j) X.1 = true) (hk : (X.2 x4.toNatClampNeg) &&& (Int32.ofInt 31) = Int32.ofInt 2) {C m t u r q ce sl : Nat} {I : Nat → Nat → Int32} {L : Nat → Nat → Int64} (hC : C ≤ 511) (h : zRel C m t u r q I L) : zTurn X (z_run X z_cf z_ff (d + 200)) x4 (zw m t u r q ce sl I L) (zNx C ce sl) := by
  obtain ⟨gS, ⟨p0, hp⟩, gT, gC, gP, gK, gO, gR, gU, gW, gV, gY, gTU, gRQ, gF⟩ := id h
  have hq := zo_press X d m ce sl I L t u r q hp (X.2 ((x4 + (Int32.ofInt 1)).toNatClampNeg)) (X.2 ((x4 + (Int32.ofInt 2)).toNatClampNeg))
  refine zl_L (p := 346) (p1 := 349) (p' := 364) (p2 := 367) (p5 := 370) (p3 := 373) rfl (zOL_mono hq (fun w hw => zn_ro h hw)) zNx_w (fun M => ?_) (fun M y W => ?_) (fun M x5 y W => zl_367 X _ M W x4 x5 y) (fun M x5 x6 W hl => (zl_373 X _ M W x4 x5 x6 x5).trans (z_end3 hl))
  · rw [zl_23, if_neg hlt, z_gd_of h0, hk, if_neg (by decide), if_neg (by decide), if_pos rfl, z_gd_of (hin 1 (by decide) (by decide)), z_gd_of (hin 2 (by decide) (by decide))]
  · refine (zl_349 X _ M W x4 y).trans ?_
    rw [z_gd_of (hin 1 (by decide) (by decide)), z_gd_of (hin 2 (by decide) (by decide))]
set_option maxRecDepth 100000 in
theorem zs_3 (X : ZX) (d : Nat) {x4 : Int32} (hlt : ¬ (Int32.ofNat X.1 - Int32.ofInt 14) < x4) (h0 : z_in x4 X.1 = true) (hin : ∀ j : Int, 1 ≤ j → j ≤ 13 → z_in (x4 + Int32.ofInt j) X.1 = true) (hk : (X.2 x4.toNatClampNeg) &&& (Int32.ofInt 31) = Int32.ofInt 3) {C m t u r q ce sl : Nat} {I : Nat → Nat → Int32} {L : Nat → Nat → Int64} (hC : C ≤ 511) (h : zRel C m t u r q I L) : zTurn X (z_run X z_cf z_ff (d + 200)) x4 (zw m t u r q ce sl I L) (zNx C ce sl) := by
  obtain ⟨gS, ⟨p0, hp⟩, gT, gC, gP, gK, gO, gR, gU, gW, gV, gY, gTU, gRQ, gF⟩ := id h
  have hq := zo_bite X d m ce sl I L t u r q gS hp (X.2 ((x4 + (Int32.ofInt 1)).toNatClampNeg)) (X.2 ((x4 + (Int32.ofInt 2)).toNatClampNeg)) (X.2 ((x4 + (Int32.ofInt 3)).toNatClampNeg)) (X.2 ((x4 + (Int32.ofInt 4)).toNatClampNeg))
  refine zl_L (p := 426) (p1 := 429) (p' := 456) (p2 := 459) (p5 := 462) (p3 := 465) rfl (zOL_mono hq (fun w hw => zn_ro h hw)) zNx_w (fun M => ?_) (fun M y W => ?_) (fun M x5 y W => zl_459 X _ M W x4 x5 y) (fun M x5 x6 W hl => (zl_465 X _ M W x4 x5 x6 x5).trans (z_end3 hl))
  · rw [zl_23, if_neg hlt, z_gd_of h0, hk, if_neg (by decide), if_neg (by decide), if_neg (by decide), if_pos rfl, z_gd_of (hin 1 (by decide) (by decide)), z_gd_of (hin 2 (by decide) (by decide)), z_gd_of (hin 3 (by decide) (by decide)), z_gd_of (hin 4 (by decide) (by decide))]
  · refine (zl_429 X _ M W x4 y).trans ?_
    rw [z_gd_of (hin 1 (by decide) (by decide)), z_gd_of (hin 2 (by decide) (by decide)), z_gd_of (hin 3 (by decide) (by decide)), z_gd_of (hin 4 (by decide) (by decide))]
set_option maxRecDepth 100000 in
theorem zs_4 (X : ZX) (d : Nat) {x4 : Int32} (hlt : ¬ (Int32.ofNat X.1 - Int32.ofInt 14) < x4) (h0 : z_in x4 X.1 = true) (hin : ∀ j : Int, 1 ≤ j → j ≤ 13 → z_in (x4 + Int32.ofInt j) X.1 = true) (hk : (X.2 x4.toNatClampNeg) &&& (Int32.ofInt 31) = Int32.ofInt 4) {C m t u r q ce sl : Nat} {I : Nat → Nat → Int32} {L : Nat → Nat → Int64} (hC : C ≤ 511) (h : zRel C m t u r q I L) : zTurn X (z_run X z_cf z_ff (d + 200)) x4 (zw m t u r q ce sl I L) (zNx C ce sl) := by
  obtain ⟨gS, ⟨p0, hp⟩, gT, gC, gP, gK, gO, gR, gU, gW, gV, gY, gTU, gRQ, gF⟩ := id h
  have hq := zo_gap X d m ce sl I L t u r q gS (X.2 ((x4 + (Int32.ofInt 1)).toNatClampNeg)) (X.2 ((x4 + (Int32.ofInt 2)).toNatClampNeg))
  refine zl_L (p := 506) (p1 := 509) (p' := 524) (p2 := 527) (p5 := 530) (p3 := 533) rfl (zOL_mono hq (fun w hw => zn_gap h hw)) zNx_w (fun M => ?_) (fun M y W => ?_) (fun M x5 y W => zl_527 X _ M W x4 x5 y) (fun M x5 x6 W hl => (zl_533 X _ M W x4 x5 x6 x5).trans (z_end3 hl))
  · rw [zl_23, if_neg hlt, z_gd_of h0, hk, if_neg (by decide), if_neg (by decide), if_neg (by decide), if_neg (by decide), if_pos rfl, z_gd_of (hin 1 (by decide) (by decide)), z_gd_of (hin 2 (by decide) (by decide))]
  · refine (zl_509 X _ M W x4 y).trans ?_
    rw [z_gd_of (hin 1 (by decide) (by decide)), z_gd_of (hin 2 (by decide) (by decide))]
set_option maxRecDepth 100000 in
theorem zs_5 (X : ZX) (d : Nat) {x4 : Int32} (hlt : ¬ (Int32.ofNat X.1 - Int32.ofInt 14) < x4) (h0 : z_in x4 X.1 = true) (hin : ∀ j : Int, 1 ≤ j → j ≤ 13 → z_in (x4 + Int32.ofInt j) X.1 = true) (hk : (X.2 x4.toNatClampNeg) &&& (Int32.ofInt 31) = Int32.ofInt 5) {C m t u r q ce sl : Nat} {I : Nat → Nat → Int32} {L : Nat → Nat → Int64} (hC : C ≤ 511) (h : zRel C m t u r q I L) : zTurn X (z_run X z_cf z_ff (d + 200)) x4 (zw m t u r q ce sl I L) (zNx C ce sl) := by
  obtain ⟨gS, ⟨p0, hp⟩, gT, gC, gP, gK, gO, gR, gU, gW, gV, gY, gTU, gRQ, gF⟩ := id h
  have hq := zo_change X d m ce sl I L t u r q gS (X.2 ((x4 + (Int32.ofInt 1)).toNatClampNeg))
  refine zl_L (p := 568) (p1 := 571) (p' := 580) (p2 := 583) (p5 := 586) (p3 := 589) rfl (zOL_mono hq (fun w hw => zn_change h hw)) zNx_w (fun M => ?_) (fun M y W => ?_) (fun M x5 y W => zl_583 X _ M W x4 x5 y) (fun M x5 x6 W hl => (zl_589 X _ M W x4 x5 x6 x5).trans (z_end3 hl))
  · rw [zl_23, if_neg hlt, z_gd_of h0, hk, if_neg (by decide), if_neg (by decide), if_neg (by decide), if_neg (by decide), if_neg (by decide), if_pos rfl, z_gd_of (hin 1 (by decide) (by decide))]
  · refine (zl_571 X _ M W x4 y).trans ?_
    rw [z_gd_of (hin 1 (by decide) (by decide))]
set_option maxRecDepth 100000 in
theorem zs_6 (X : ZX) (d : Nat) {x4 : Int32} (hlt : ¬ (Int32.ofNat X.1 - Int32.ofInt 14) < x4) (h0 : z_in x4 X.1 = true) (hin : ∀ j : Int, 1 ≤ j → j ≤ 13 → z_in (x4 + Int32.ofInt j) X.1 = true) (hk : (X.2 x4.toNatClampNeg) &&& (Int32.ofInt 31) = Int32.ofInt 6) {C m t u r q ce sl : Nat} {I : Nat → Nat → Int32} {L : Nat → Nat → Int64} (hC : C ≤ 511) (h : zRel C m t u r q I L) : zTurn X (z_run X z_cf z_ff (d + 200)) x4 (zw m t u r q ce sl I L) (zNx C ce sl) := by
  obtain ⟨gS, ⟨p0, hp⟩, gT, gC, gP, gK, gO, gR, gU, gW, gV, gY, gTU, gRQ, gF⟩ := id h
  have hq := zo_standOf X d m ce sl I L t u r q gS (X.2 ((x4 + (Int32.ofInt 1)).toNatClampNeg)) (X.2 ((x4 + (Int32.ofInt 2)).toNatClampNeg))
  refine zl_L (p := 630) (p1 := 633) (p' := 648) (p2 := 651) (p5 := 654) (p3 := 657) rfl (zOL_mono hq (fun w hw => zn_ro h hw)) zNx_w (fun M => ?_) (fun M y W => ?_) (fun M x5 y W => zl_651 X _ M W x4 x5 y) (fun M x5 x6 W hl => (zl_657 X _ M W x4 x5 x6 x5).trans (z_end3 hl))
  · rw [zl_23, if_neg hlt, z_gd_of h0, hk, if_neg (by decide), if_neg (by decide), if_neg (by decide), if_neg (by decide), if_neg (by decide), if_neg (by decide), if_pos rfl, z_gd_of (hin 1 (by decide) (by decide)), z_gd_of (hin 2 (by decide) (by decide))]
  · refine (zl_633 X _ M W x4 y).trans ?_
    rw [z_gd_of (hin 1 (by decide) (by decide)), z_gd_of (hin 2 (by decide) (by decide))]
set_option maxRecDepth 100000 in
theorem zs_7 (X : ZX) (d : Nat) {x4 : Int32} (hlt : ¬ (Int32.ofNat X.1 - Int32.ofInt 14) < x4) (h0 : z_in x4 X.1 = true) (hin : ∀ j : Int, 1 ≤ j → j ≤ 13 → z_in (x4 + Int32.ofInt j) X.1 = true) (hk : (X.2 x4.toNatClampNeg) &&& (Int32.ofInt 31) = Int32.ofInt 7) {C m t u r q ce sl : Nat} {I : Nat → Nat → Int32} {L : Nat → Nat → Int64} (hC : C ≤ 511) (h : zRel C m t u r q I L) : zTurn X (z_run X z_cf z_ff (d + 200)) x4 (zw m t u r q ce sl I L) (zNx C ce sl) := by
  obtain ⟨gS, ⟨p0, hp⟩, gT, gC, gP, gK, gO, gR, gU, gW, gV, gY, gTU, gRQ, gF⟩ := id h
  have hq := zo_feed X d m ce sl I L t u r q gT (X.2 ((x4 + (Int32.ofInt 1)).toNatClampNeg)) (X.2 ((x4 + (Int32.ofInt 2)).toNatClampNeg)) (X.2 ((x4 + (Int32.ofInt 3)).toNatClampNeg)) (X.2 ((x4 + (Int32.ofInt 4)).toNatClampNeg)) (X.2 ((x4 + (Int32.ofInt 5)).toNatClampNeg))
  refine zl_X (p := 715) (p1 := 718) (p' := 749) (p2 := 752) rfl (zOX_mono hq (fun w hw => zn_feed h hw)) (fun M => ?_) (fun M y W => ?_) (fun M y W => ?_)
  · rw [zl_23, if_neg hlt, z_gd_of h0, hk, if_neg (by decide), if_neg (by decide), if_neg (by decide), if_neg (by decide), if_neg (by decide), if_neg (by decide), if_neg (by decide), if_pos rfl, z_gd_of (hin 1 (by decide) (by decide)), z_gd_of (hin 2 (by decide) (by decide)), z_gd_of (hin 3 (by decide) (by decide)), z_gd_of (hin 4 (by decide) (by decide)), z_gd_of (hin 5 (by decide) (by decide))]
  · refine (zl_718 X _ M W x4 y).trans ?_
    rw [z_gd_of (hin 1 (by decide) (by decide)), z_gd_of (hin 2 (by decide) (by decide)), z_gd_of (hin 3 (by decide) (by decide)), z_gd_of (hin 4 (by decide) (by decide)), z_gd_of (hin 5 (by decide) (by decide))]
  · exact (zl_752 X _ M W x4 y y).trans (if_pos rfl)
set_option maxRecDepth 100000 in
theorem zs_8 (X : ZX) (d : Nat) {x4 : Int32} (hlt : ¬ (Int32.ofNat X.1 - Int32.ofInt 14) < x4) (h0 : z_in x4 X.1 = true) (hin : ∀ j : Int, 1 ≤ j → j ≤ 13 → z_in (x4 + Int32.ofInt j) X.1 = true) (hk : (X.2 x4.toNatClampNeg) &&& (Int32.ofInt 31) = Int32.ofInt 8) {C m t u r q ce sl : Nat} {I : Nat → Nat → Int32} {L : Nat → Nat → Int64} (hC : C ≤ 511) (h : zRel C m t u r q I L) : zTurn X (z_run X z_cf z_ff (d + 200)) x4 (zw m t u r q ce sl I L) (zNx C ce sl) := by
  obtain ⟨gS, ⟨p0, hp⟩, gT, gC, gP, gK, gO, gR, gU, gW, gV, gY, gTU, gRQ, gF⟩ := id h
  have hq : zOL X (d + 200) 257 [.ref 0, .int (X.2 ((x4 + (Int32.ofInt 1)).toNatClampNeg)), .ref 117] 183 [.ref 55, .int (X.2 ((x4 + (Int32.ofInt 1)).toNatClampNeg))] (zw m t u r q ce sl I L) (zQV m r q ce sl I L) := by
    rcases gTU with ⟨rfl, rfl⟩ | ⟨rfl, rfl⟩
    · exact zo_rules8 X d m ce sl I L r q gS gT gV gF (X.2 ((x4 + (Int32.ofInt 1)).toNatClampNeg))
    · exact zo_rules15 X d m ce sl I L r q gS gT gV gF (X.2 ((x4 + (Int32.ofInt 1)).toNatClampNeg))
  refine zl_L (p := 765) (p1 := 768) (p' := 777) (p2 := 780) (p5 := 783) (p3 := 786) rfl (zOL_mono hq (fun w hw => zn_rules h hw)) zNx_w (fun M => ?_) (fun M y W => ?_) (fun M x5 y W => zl_780 X _ M W x4 x5 y) (fun M x5 x6 W hl => (zl_786 X _ M W x4 x5 x6 x5).trans (z_end3 hl))
  · rw [zl_23, if_neg hlt, z_gd_of h0, hk, if_neg (by decide), if_neg (by decide), if_neg (by decide), if_neg (by decide), if_neg (by decide), if_neg (by decide), if_neg (by decide), if_neg (by decide), if_pos rfl, z_gd_of (hin 1 (by decide) (by decide))]
  · refine (zl_768 X _ M W x4 y).trans ?_
    rw [z_gd_of (hin 1 (by decide) (by decide))]
set_option maxRecDepth 100000 in
theorem zs_9 (X : ZX) (d : Nat) {x4 : Int32} (hlt : ¬ (Int32.ofNat X.1 - Int32.ofInt 14) < x4) (h0 : z_in x4 X.1 = true) (hin : ∀ j : Int, 1 ≤ j → j ≤ 13 → z_in (x4 + Int32.ofInt j) X.1 = true) (hk : (X.2 x4.toNatClampNeg) &&& (Int32.ofInt 31) = Int32.ofInt 9) {C m t u r q ce sl : Nat} {I : Nat → Nat → Int32} {L : Nat → Nat → Int64} (hC : C ≤ 511) (h : zRel C m t u r q I L) : zTurn X (z_run X z_cf z_ff (d + 200)) x4 (zw m t u r q ce sl I L) (zNx C ce sl) := by
  obtain ⟨gS, ⟨p0, hp⟩, gT, gC, gP, gK, gO, gR, gU, gW, gV, gY, gTU, gRQ, gF⟩ := id h
  have hq := zo_fault X d m ce sl I L t u r q gF
  refine zl_X (p := 814) (p1 := 817) (p' := 818) (p2 := 821) rfl (zOX_mono hq (fun w hw => zn_ro h hw)) (fun M => ?_) (fun M y W => ?_) (fun M y W => ?_)
  · rw [zl_23, if_neg hlt, z_gd_of h0, hk, if_neg (by decide), if_neg (by decide), if_neg (by decide), if_neg (by decide), if_neg (by decide), if_neg (by decide), if_neg (by decide), if_neg (by decide), if_neg (by decide), if_pos rfl]
  · refine (zl_817 X _ M W x4 y).trans ?_
    rfl
  · exact (zl_821 X _ M W x4 y y).trans (if_pos rfl)
set_option maxRecDepth 100000 in
theorem zs_10 (X : ZX) (d : Nat) {x4 : Int32} (hlt : ¬ (Int32.ofNat X.1 - Int32.ofInt 14) < x4) (h0 : z_in x4 X.1 = true) (hin : ∀ j : Int, 1 ≤ j → j ≤ 13 → z_in (x4 + Int32.ofInt j) X.1 = true) (hk : (X.2 x4.toNatClampNeg) &&& (Int32.ofInt 31) = Int32.ofInt 10) {C m t u r q ce sl : Nat} {I : Nat → Nat → Int32} {L : Nat → Nat → Int64} (hC : C ≤ 511) (h : zRel C m t u r q I L) : zTurn X (z_run X z_cf z_ff (d + 200)) x4 (zw m t u r q ce sl I L) (zNx C ce sl) := by
  obtain ⟨gS, ⟨p0, hp⟩, gT, gC, gP, gK, gO, gR, gU, gW, gV, gY, gTU, gRQ, gF⟩ := id h
  obtain ⟨w1, w2, e1, e2, hq⟩ := zo_coil X d m ce sl I L t u r q
  have c1 : w1.1 = 118 := zP1_pu (d := d + 198) e1
  have c2 : w2.1 = 118 := (zP1_pu (d := d + 198) e2).trans c1
  obtain ⟨W1, rfl⟩ := z_w118 c1
  obtain ⟨W2, rfl⟩ := z_w118 c2
  refine ⟨3, _, by omega, zn_coil h hq, fun M => ?_⟩
  rw [show M + 3 = M + 2 + 1 by omega, zl_23, if_neg hlt, z_gd_of h0, hk, if_neg (by decide), if_neg (by decide), if_neg (by decide), if_neg (by decide), if_neg (by decide), if_neg (by decide), if_neg (by decide), if_neg (by decide), if_neg (by decide), if_neg (by decide), if_pos rfl, e1]
  refine (zl_830 X _ (M + 1) W1 x4).trans ?_
  rw [e2]
  exact zl_834 X _ M W2 x4
set_option maxRecDepth 100000 in
theorem zs_11 (X : ZX) (d : Nat) {x4 : Int32} (hlt : ¬ (Int32.ofNat X.1 - Int32.ofInt 14) < x4) (h0 : z_in x4 X.1 = true) (hin : ∀ j : Int, 1 ≤ j → j ≤ 13 → z_in (x4 + Int32.ofInt j) X.1 = true) (hk : (X.2 x4.toNatClampNeg) &&& (Int32.ofInt 31) = Int32.ofInt 11) {C m t u r q ce sl : Nat} {I : Nat → Nat → Int32} {L : Nat → Nat → Int64} (hC : C ≤ 511) (h : zRel C m t u r q I L) : zTurn X (z_run X z_cf z_ff (d + 200)) x4 (zw m t u r q ce sl I L) (zNx C ce sl) := by
  obtain ⟨gS, ⟨p0, hp⟩, gT, gC, gP, gK, gO, gR, gU, gW, gV, gY, gTU, gRQ, gF⟩ := id h
  have hq := zo_segment X d m ce sl I L t u r q gC gU (X.2 ((x4 + (Int32.ofInt 1)).toNatClampNeg)) (X.2 ((x4 + (Int32.ofInt 2)).toNatClampNeg))
  refine zl_X (p := 850) (p1 := 853) (p' := 866) (p2 := 869) rfl (zOX_mono hq (fun w hw => zn_segment h hw)) (fun M => ?_) (fun M y W => ?_) (fun M y W => ?_)
  · rw [zl_23, if_neg hlt, z_gd_of h0, hk, if_neg (by decide), if_neg (by decide), if_neg (by decide), if_neg (by decide), if_neg (by decide), if_neg (by decide), if_neg (by decide), if_neg (by decide), if_neg (by decide), if_neg (by decide), if_neg (by decide), if_pos rfl, z_gd_of (hin 1 (by decide) (by decide)), z_gd_of (hin 2 (by decide) (by decide))]
  · refine (zl_853 X _ M W x4 y).trans ?_
    rw [z_gd_of (hin 1 (by decide) (by decide)), z_gd_of (hin 2 (by decide) (by decide))]
  · exact (zl_869 X _ M W x4 y y).trans (if_pos rfl)
set_option maxRecDepth 100000 in
theorem zs_12 (X : ZX) (d : Nat) {x4 : Int32} (hlt : ¬ (Int32.ofNat X.1 - Int32.ofInt 14) < x4) (h0 : z_in x4 X.1 = true) (hin : ∀ j : Int, 1 ≤ j → j ≤ 13 → z_in (x4 + Int32.ofInt j) X.1 = true) (hk : (X.2 x4.toNatClampNeg) &&& (Int32.ofInt 31) = Int32.ofInt 12) {C m t u r q ce sl : Nat} {I : Nat → Nat → Int32} {L : Nat → Nat → Int64} (hC : C ≤ 511) (h : zRel C m t u r q I L) : zTurn X (z_run X z_cf z_ff (d + 200)) x4 (zw m t u r q ce sl I L) (zNx C ce sl) := by
  obtain ⟨gS, ⟨p0, hp⟩, gT, gC, gP, gK, gO, gR, gU, gW, gV, gY, gTU, gRQ, gF⟩ := id h
  have hq : zOL X (d + 200) 258 [.ref 0, .int (X.2 ((x4 + (Int32.ofInt 1)).toNatClampNeg)), .ref 117] 208 [.ref 55, .int (X.2 ((x4 + (Int32.ofInt 1)).toNatClampNeg))] (zw m t u r q ce sl I L) (zQ m t u r q ce sl I L [10, 17, 25, 26, 27, 28, 29, 64, 65, 80, 81, 82, 83, 84, 85, 86, 87, 88, 89, 90] [43, 44, 45, 46, 47, 48, 54, 55] (fun J => zg_S (C + 1) m J ∧ zg_U m J ∧ zg_W J)) := by
    rcases gTU with ⟨rfl, rfl⟩ | ⟨rfl, rfl⟩
    · obtain ⟨l, hl⟩ := zg_V_8 gV
      exact zo_run8 X d m ce sl I L 15 r q gS hp gC hC gW gU hl (X.2 ((x4 + (Int32.ofInt 1)).toNatClampNeg))
    · obtain ⟨l, hl⟩ := zg_V_15 gV
      exact zo_run15 X d m ce sl I L 8 r q gS hp gC hC gW gU hl (X.2 ((x4 + (Int32.ofInt 1)).toNatClampNeg))
  refine zl_L (p := 882) (p1 := 885) (p' := 894) (p2 := 897) (p5 := 900) (p3 := 903) rfl (zOL_mono hq (fun w hw => zn_run h hw)) zNx_w (fun M => ?_) (fun M y W => ?_) (fun M x5 y W => zl_897 X _ M W x4 x5 y) (fun M x5 x6 W hl => (zl_903 X _ M W x4 x5 x6 x5).trans (z_end3 hl))
  · rw [zl_23, if_neg hlt, z_gd_of h0, hk, if_neg (by decide), if_neg (by decide), if_neg (by decide), if_neg (by decide), if_neg (by decide), if_neg (by decide), if_neg (by decide), if_neg (by decide), if_neg (by decide), if_neg (by decide), if_neg (by decide), if_neg (by decide), if_pos rfl, z_gd_of (hin 1 (by decide) (by decide))]
  · refine (zl_885 X _ M W x4 y).trans ?_
    rw [z_gd_of (hin 1 (by decide) (by decide))]
set_option maxRecDepth 100000 in
theorem zs_13 (X : ZX) (d : Nat) {x4 : Int32} (hlt : ¬ (Int32.ofNat X.1 - Int32.ofInt 14) < x4) (h0 : z_in x4 X.1 = true) (hin : ∀ j : Int, 1 ≤ j → j ≤ 13 → z_in (x4 + Int32.ofInt j) X.1 = true) (hk : (X.2 x4.toNatClampNeg) &&& (Int32.ofInt 31) = Int32.ofInt 13) {C m t u r q ce sl : Nat} {I : Nat → Nat → Int32} {L : Nat → Nat → Int64} (hC : C ≤ 511) (h : zRel C m t u r q I L) : zTurn X (z_run X z_cf z_ff (d + 200)) x4 (zw m t u r q ce sl I L) (zNx C ce sl) := by
  obtain ⟨gS, ⟨p0, hp⟩, gT, gC, gP, gK, gO, gR, gU, gW, gV, gY, gTU, gRQ, gF⟩ := id h
  have hq := zo_ran X d m ce sl I L t u r q gS gC gU (X.2 ((x4 + (Int32.ofInt 1)).toNatClampNeg))
  refine zl_L (p := 938) (p1 := 941) (p' := 950) (p2 := 953) (p5 := 956) (p3 := 959) rfl (zOL_mono hq (fun w hw => zn_ro h hw)) zNx_w (fun M => ?_) (fun M y W => ?_) (fun M x5 y W => zl_953 X _ M W x4 x5 y) (fun M x5 x6 W hl => (zl_959 X _ M W x4 x5 x6 x5).trans (z_end3 hl))
  · rw [zl_23, if_neg hlt, z_gd_of h0, hk, if_neg (by decide), if_neg (by decide), if_neg (by decide), if_neg (by decide), if_neg (by decide), if_neg (by decide), if_neg (by decide), if_neg (by decide), if_neg (by decide), if_neg (by decide), if_neg (by decide), if_neg (by decide), if_neg (by decide), if_pos rfl, z_gd_of (hin 1 (by decide) (by decide))]
  · refine (zl_941 X _ M W x4 y).trans ?_
    rw [z_gd_of (hin 1 (by decide) (by decide))]
set_option maxRecDepth 100000 in
theorem zs_14 (X : ZX) (d : Nat) {x4 : Int32} (hlt : ¬ (Int32.ofNat X.1 - Int32.ofInt 14) < x4) (h0 : z_in x4 X.1 = true) (hin : ∀ j : Int, 1 ≤ j → j ≤ 13 → z_in (x4 + Int32.ofInt j) X.1 = true) (hk : (X.2 x4.toNatClampNeg) &&& (Int32.ofInt 31) = Int32.ofInt 14) {C m t u r q ce sl : Nat} {I : Nat → Nat → Int32} {L : Nat → Nat → Int64} (hC : C ≤ 511) (h : zRel C m t u r q I L) : zTurn X (z_run X z_cf z_ff (d + 200)) x4 (zw m t u r q ce sl I L) (zNx C ce sl) := by
  obtain ⟨gS, ⟨p0, hp⟩, gT, gC, gP, gK, gO, gR, gU, gW, gV, gY, gTU, gRQ, gF⟩ := id h
  have hq := zo_out X d m ce sl I L t u r q gS gC gU (X.2 ((x4 + (Int32.ofInt 1)).toNatClampNeg)) (X.2 ((x4 + (Int32.ofInt 2)).toNatClampNeg))
  refine zl_L (p := 1000) (p1 := 1003) (p' := 1018) (p2 := 1021) (p5 := 1024) (p3 := 1027) rfl (zOL_mono hq (fun w hw => zn_ro h hw)) zNx_w (fun M => ?_) (fun M y W => ?_) (fun M x5 y W => zl_1021 X _ M W x4 x5 y) (fun M x5 x6 W hl => (zl_1027 X _ M W x4 x5 x6 x5).trans (z_end3 hl))
  · rw [zl_23, if_neg hlt, z_gd_of h0, hk, if_neg (by decide), if_neg (by decide), if_neg (by decide), if_neg (by decide), if_neg (by decide), if_neg (by decide), if_neg (by decide), if_neg (by decide), if_neg (by decide), if_neg (by decide), if_neg (by decide), if_neg (by decide), if_neg (by decide), if_neg (by decide), if_pos rfl, z_gd_of (hin 1 (by decide) (by decide)), z_gd_of (hin 2 (by decide) (by decide))]
  · refine (zl_1003 X _ M W x4 y).trans ?_
    rw [z_gd_of (hin 1 (by decide) (by decide)), z_gd_of (hin 2 (by decide) (by decide))]
set_option maxRecDepth 100000 in
theorem zs_15 (X : ZX) (d : Nat) {x4 : Int32} (hlt : ¬ (Int32.ofNat X.1 - Int32.ofInt 14) < x4) (h0 : z_in x4 X.1 = true) (hin : ∀ j : Int, 1 ≤ j → j ≤ 13 → z_in (x4 + Int32.ofInt j) X.1 = true) (hk : (X.2 x4.toNatClampNeg) &&& (Int32.ofInt 31) = Int32.ofInt 15) {C m t u r q ce sl : Nat} {I : Nat → Nat → Int32} {L : Nat → Nat → Int64} (hC : C ≤ 511) (h : zRel C m t u r q I L) : zTurn X (z_run X z_cf z_ff (d + 200)) x4 (zw m t u r q ce sl I L) (zNx C ce sl) := by
  obtain ⟨gS, ⟨p0, hp⟩, gT, gC, gP, gK, gO, gR, gU, gW, gV, gY, gTU, gRQ, gF⟩ := id h
  have hq := zo_gauge X d m ce sl I L t u r q gU (X.2 ((x4 + (Int32.ofInt 1)).toNatClampNeg))
  refine zl_L (p := 1062) (p1 := 1065) (p' := 1074) (p2 := 1077) (p5 := 1080) (p3 := 1083) rfl (zOL_mono hq (fun w hw => zn_ro h hw)) zNx_w (fun M => ?_) (fun M y W => ?_) (fun M x5 y W => zl_1077 X _ M W x4 x5 y) (fun M x5 x6 W hl => (zl_1083 X _ M W x4 x5 x6 x5).trans (z_end3 hl))
  · rw [zl_23, if_neg hlt, z_gd_of h0, hk, if_neg (by decide), if_neg (by decide), if_neg (by decide), if_neg (by decide), if_neg (by decide), if_neg (by decide), if_neg (by decide), if_neg (by decide), if_neg (by decide), if_neg (by decide), if_neg (by decide), if_neg (by decide), if_neg (by decide), if_neg (by decide), if_neg (by decide), if_pos rfl, z_gd_of (hin 1 (by decide) (by decide))]
  · refine (zl_1065 X _ M W x4 y).trans ?_
    rw [z_gd_of (hin 1 (by decide) (by decide))]
set_option maxRecDepth 100000 in
theorem zs_16 (X : ZX) (d : Nat) {x4 : Int32} (hlt : ¬ (Int32.ofNat X.1 - Int32.ofInt 14) < x4) (h0 : z_in x4 X.1 = true) (hin : ∀ j : Int, 1 ≤ j → j ≤ 13 → z_in (x4 + Int32.ofInt j) X.1 = true) (hk : (X.2 x4.toNatClampNeg) &&& (Int32.ofInt 31) = Int32.ofInt 16) {C m t u r q ce sl : Nat} {I : Nat → Nat → Int32} {L : Nat → Nat → Int64} (hC : C ≤ 511) (h : zRel C m t u r q I L) : zTurn X (z_run X z_cf z_ff (d + 200)) x4 (zw m t u r q ce sl I L) (zNx C ce sl) := by
  obtain ⟨gS, ⟨p0, hp⟩, gT, gC, gP, gK, gO, gR, gU, gW, gV, gY, gTU, gRQ, gF⟩ := id h
  have hq := zo_pull X d m ce sl I L t u r q gS gU (X.2 ((x4 + (Int32.ofInt 1)).toNatClampNeg))
  refine zl_L (p := 1118) (p1 := 1121) (p' := 1130) (p2 := 1133) (p5 := 1136) (p3 := 1139) rfl (zOL_mono hq (fun w hw => zn_ro h hw)) zNx_w (fun M => ?_) (fun M y W => ?_) (fun M x5 y W => zl_1133 X _ M W x4 x5 y) (fun M x5 x6 W hl => (zl_1139 X _ M W x4 x5 x6 x5).trans (z_end3 hl))
  · rw [zl_23, if_neg hlt, z_gd_of h0, hk, if_neg (by decide), if_neg (by decide), if_neg (by decide), if_neg (by decide), if_neg (by decide), if_neg (by decide), if_neg (by decide), if_neg (by decide), if_neg (by decide), if_neg (by decide), if_neg (by decide), if_neg (by decide), if_neg (by decide), if_neg (by decide), if_neg (by decide), if_neg (by decide), if_pos rfl, z_gd_of (hin 1 (by decide) (by decide))]
  · refine (zl_1121 X _ M W x4 y).trans ?_
    rw [z_gd_of (hin 1 (by decide) (by decide))]
set_option maxRecDepth 100000 in
theorem zs_17 (X : ZX) (d : Nat) {x4 : Int32} (hlt : ¬ (Int32.ofNat X.1 - Int32.ofInt 14) < x4) (h0 : z_in x4 X.1 = true) (hin : ∀ j : Int, 1 ≤ j → j ≤ 13 → z_in (x4 + Int32.ofInt j) X.1 = true) (hk : (X.2 x4.toNatClampNeg) &&& (Int32.ofInt 31) = Int32.ofInt 17) {C m t u r q ce sl : Nat} {I : Nat → Nat → Int32} {L : Nat → Nat → Int64} (hC : C ≤ 511) (h : zRel C m t u r q I L) : zTurn X (z_run X z_cf z_ff (d + 200)) x4 (zw m t u r q ce sl I L) (zNx C ce sl) := by
  obtain ⟨gS, ⟨p0, hp⟩, gT, gC, gP, gK, gO, gR, gU, gW, gV, gY, gTU, gRQ, gF⟩ := id h
  by_cases c : (X.2 ((x4 + (Int32.ofInt 1)).toNatClampNeg)) = 0
  · have hq := zo_lost X d m ce sl I L t u r q gS gC gU (Int32.ofInt 0) (X.2 ((x4 + (Int32.ofInt 2)).toNatClampNeg))
    refine zl_L (p := 1188) (p1 := 1191) (p' := 1214) (p2 := 1217) (p5 := 1220) (p3 := 1223) rfl (zOL_mono hq (fun w hw => zn_ro h hw)) zNx_w (fun M => ?_) (fun M y W => ?_) (fun M x5 y W => zl_1217 X _ M W x4 x5 y) (fun M x5 x6 W hl => (zl_1223 X _ M W x4 x5 x6 x5).trans (z_end3 hl))
    · rw [zl_23, if_neg hlt, z_gd_of h0, hk, if_neg (by decide), if_neg (by decide), if_neg (by decide), if_neg (by decide), if_neg (by decide), if_neg (by decide), if_neg (by decide), if_neg (by decide), if_neg (by decide), if_neg (by decide), if_neg (by decide), if_neg (by decide), if_neg (by decide), if_neg (by decide), if_neg (by decide), if_neg (by decide), if_neg (by decide), if_pos rfl, z_gd_of (hin 1 (by decide) (by decide)), if_pos c, z_gd_of (hin 2 (by decide) (by decide))]
    · refine (zl_1191 X _ M W x4 y).trans ?_
      rw [z_gd_of (hin 1 (by decide) (by decide)), if_pos c, z_gd_of (hin 2 (by decide) (by decide))]
  · have hq := zo_lost X d m ce sl I L t u r q gS gC gU (Int32.ofInt 1) (X.2 ((x4 + (Int32.ofInt 2)).toNatClampNeg))
    refine zl_L (p := 1188) (p1 := 1191) (p' := 1214) (p2 := 1217) (p5 := 1220) (p3 := 1223) rfl (zOL_mono hq (fun w hw => zn_ro h hw)) zNx_w (fun M => ?_) (fun M y W => ?_) (fun M x5 y W => zl_1217 X _ M W x4 x5 y) (fun M x5 x6 W hl => (zl_1223 X _ M W x4 x5 x6 x5).trans (z_end3 hl))
    · rw [zl_23, if_neg hlt, z_gd_of h0, hk, if_neg (by decide), if_neg (by decide), if_neg (by decide), if_neg (by decide), if_neg (by decide), if_neg (by decide), if_neg (by decide), if_neg (by decide), if_neg (by decide), if_neg (by decide), if_neg (by decide), if_neg (by decide), if_neg (by decide), if_neg (by decide), if_neg (by decide), if_neg (by decide), if_neg (by decide), if_pos rfl, z_gd_of (hin 1 (by decide) (by decide)), if_neg c, z_gd_of (hin 2 (by decide) (by decide))]
    · refine (zl_1191 X _ M W x4 y).trans ?_
      rw [z_gd_of (hin 1 (by decide) (by decide)), if_neg c, z_gd_of (hin 2 (by decide) (by decide))]
set_option maxRecDepth 100000 in
theorem zs_18 (X : ZX) (d : Nat) {x4 : Int32} (hlt : ¬ (Int32.ofNat X.1 - Int32.ofInt 14) < x4) (h0 : z_in x4 X.1 = true) (hin : ∀ j : Int, 1 ≤ j → j ≤ 13 → z_in (x4 + Int32.ofInt j) X.1 = true) (hk : (X.2 x4.toNatClampNeg) &&& (Int32.ofInt 31) = Int32.ofInt 18) {C m t u r q ce sl : Nat} {I : Nat → Nat → Int32} {L : Nat → Nat → Int64} (hC : C ≤ 511) (h : zRel C m t u r q I L) : zTurn X (z_run X z_cf z_ff (d + 200)) x4 (zw m t u r q ce sl I L) (zNx C ce sl) := by
  obtain ⟨gS, ⟨p0, hp⟩, gT, gC, gP, gK, gO, gR, gU, gW, gV, gY, gTU, gRQ, gF⟩ := id h
  have hq := zo_pass X d m ce sl I L t u r q gP (X.2 ((x4 + (Int32.ofInt 1)).toNatClampNeg))
  refine zl_X (p := 1257) (p1 := 1260) (p' := 1267) (p2 := 1270) rfl (zOX_mono hq (fun w hw => zn_pass h hw)) (fun M => ?_) (fun M y W => ?_) (fun M y W => ?_)
  · rw [zl_23, if_neg hlt, z_gd_of h0, hk, if_neg (by decide), if_neg (by decide), if_neg (by decide), if_neg (by decide), if_neg (by decide), if_neg (by decide), if_neg (by decide), if_neg (by decide), if_neg (by decide), if_neg (by decide), if_neg (by decide), if_neg (by decide), if_neg (by decide), if_neg (by decide), if_neg (by decide), if_neg (by decide), if_neg (by decide), if_neg (by decide), if_pos rfl, z_gd_of (hin 1 (by decide) (by decide))]
  · refine (zl_1260 X _ M W x4 y).trans ?_
    rw [z_gd_of (hin 1 (by decide) (by decide))]
  · exact (zl_1270 X _ M W x4 y y).trans (if_pos rfl)
set_option maxRecDepth 100000 in
theorem zs_19 (X : ZX) (d : Nat) {x4 : Int32} (hlt : ¬ (Int32.ofNat X.1 - Int32.ofInt 14) < x4) (h0 : z_in x4 X.1 = true) (hin : ∀ j : Int, 1 ≤ j → j ≤ 13 → z_in (x4 + Int32.ofInt j) X.1 = true) (hk : (X.2 x4.toNatClampNeg) &&& (Int32.ofInt 31) = Int32.ofInt 19) {C m t u r q ce sl : Nat} {I : Nat → Nat → Int32} {L : Nat → Nat → Int64} (hC : C ≤ 511) (h : zRel C m t u r q I L) : zTurn X (z_run X z_cf z_ff (d + 200)) x4 (zw m t u r q ce sl I L) (zNx C ce sl) := by
  obtain ⟨gS, ⟨p0, hp⟩, gT, gC, gP, gK, gO, gR, gU, gW, gV, gY, gTU, gRQ, gF⟩ := id h
  have hq := zo_plan X d m ce sl I L t u r q gS hp gP gK (X.2 ((x4 + (Int32.ofInt 1)).toNatClampNeg)) (X.2 ((x4 + (Int32.ofInt 2)).toNatClampNeg)) (X.2 ((x4 + (Int32.ofInt 3)).toNatClampNeg))
  refine zl_L (p := 1295) (p1 := 1298) (p' := 1319) (p2 := 1322) (p5 := 1325) (p3 := 1328) rfl (zOL_mono hq (fun w hw => zn_plan h hw)) zNx_w (fun M => ?_) (fun M y W => ?_) (fun M x5 y W => zl_1322 X _ M W x4 x5 y) (fun M x5 x6 W hl => (zl_1328 X _ M W x4 x5 x6 x5).trans (z_end3 hl))
  · rw [zl_23, if_neg hlt, z_gd_of h0, hk, if_neg (by decide), if_neg (by decide), if_neg (by decide), if_neg (by decide), if_neg (by decide), if_neg (by decide), if_neg (by decide), if_neg (by decide), if_neg (by decide), if_neg (by decide), if_neg (by decide), if_neg (by decide), if_neg (by decide), if_neg (by decide), if_neg (by decide), if_neg (by decide), if_neg (by decide), if_neg (by decide), if_neg (by decide), if_pos rfl, z_gd_of (hin 1 (by decide) (by decide)), z_gd_of (hin 2 (by decide) (by decide)), z_gd_of (hin 3 (by decide) (by decide))]
  · refine (zl_1298 X _ M W x4 y).trans ?_
    rw [z_gd_of (hin 1 (by decide) (by decide)), z_gd_of (hin 2 (by decide) (by decide)), z_gd_of (hin 3 (by decide) (by decide))]
set_option maxRecDepth 100000 in
theorem zs_20 (X : ZX) (d : Nat) {x4 : Int32} (hlt : ¬ (Int32.ofNat X.1 - Int32.ofInt 14) < x4) (h0 : z_in x4 X.1 = true) (hin : ∀ j : Int, 1 ≤ j → j ≤ 13 → z_in (x4 + Int32.ofInt j) X.1 = true) (hk : (X.2 x4.toNatClampNeg) &&& (Int32.ofInt 31) = Int32.ofInt 20) {C m t u r q ce sl : Nat} {I : Nat → Nat → Int32} {L : Nat → Nat → Int64} (hC : C ≤ 511) (h : zRel C m t u r q I L) : zTurn X (z_run X z_cf z_ff (d + 200)) x4 (zw m t u r q ce sl I L) (zNx C ce sl) := by
  obtain ⟨gS, ⟨p0, hp⟩, gT, gC, gP, gK, gO, gR, gU, gW, gV, gY, gTU, gRQ, gF⟩ := id h
  have hq := zo_planned X d m ce sl I L t u r q gS gK (X.2 ((x4 + (Int32.ofInt 1)).toNatClampNeg)) (X.2 ((x4 + (Int32.ofInt 2)).toNatClampNeg))
  refine zl_L (p := 1369) (p1 := 1372) (p' := 1387) (p2 := 1390) (p5 := 1393) (p3 := 1396) rfl (zOL_mono hq (fun w hw => zn_ro h hw)) zNx_w (fun M => ?_) (fun M y W => ?_) (fun M x5 y W => zl_1390 X _ M W x4 x5 y) (fun M x5 x6 W hl => (zl_1396 X _ M W x4 x5 x6 x5).trans (z_end3 hl))
  · rw [zl_23, if_neg hlt, z_gd_of h0, hk, if_neg (by decide), if_neg (by decide), if_neg (by decide), if_neg (by decide), if_neg (by decide), if_neg (by decide), if_neg (by decide), if_neg (by decide), if_neg (by decide), if_neg (by decide), if_neg (by decide), if_neg (by decide), if_neg (by decide), if_neg (by decide), if_neg (by decide), if_neg (by decide), if_neg (by decide), if_neg (by decide), if_neg (by decide), if_neg (by decide), if_pos rfl, z_gd_of (hin 1 (by decide) (by decide)), z_gd_of (hin 2 (by decide) (by decide))]
  · refine (zl_1372 X _ M W x4 y).trans ?_
    rw [z_gd_of (hin 1 (by decide) (by decide)), z_gd_of (hin 2 (by decide) (by decide))]
set_option maxRecDepth 100000 in
theorem zs_21 (X : ZX) (d : Nat) {x4 : Int32} (hlt : ¬ (Int32.ofNat X.1 - Int32.ofInt 14) < x4) (h0 : z_in x4 X.1 = true) (hin : ∀ j : Int, 1 ≤ j → j ≤ 13 → z_in (x4 + Int32.ofInt j) X.1 = true) (hk : (X.2 x4.toNatClampNeg) &&& (Int32.ofInt 31) = Int32.ofInt 21) {C m t u r q ce sl : Nat} {I : Nat → Nat → Int32} {L : Nat → Nat → Int64} (hC : C ≤ 511) (h : zRel C m t u r q I L) : zTurn X (z_run X z_cf z_ff (d + 200)) x4 (zw m t u r q ce sl I L) (zNx C ce sl) := by
  obtain ⟨gS, ⟨p0, hp⟩, gT, gC, gP, gK, gO, gR, gU, gW, gV, gY, gTU, gRQ, gF⟩ := id h
  have hq := zo_fitsB X d m ce sl I L t u r q gS (X.2 ((x4 + (Int32.ofInt 1)).toNatClampNeg)) (X.2 ((x4 + (Int32.ofInt 2)).toNatClampNeg)) ((((X.2 ((x4 + (Int32.ofInt 3)).toNatClampNeg)).toInt64) <<< (((Int32.ofInt 32)).toInt64 &&& 63)) ||| (((X.2 ((x4 + (Int32.ofInt 4)).toNatClampNeg)).toInt64) &&& (Int64.ofInt 4294967295))) ((((X.2 ((x4 + (Int32.ofInt 5)).toNatClampNeg)).toInt64) <<< (((Int32.ofInt 32)).toInt64 &&& 63)) ||| (((X.2 ((x4 + (Int32.ofInt 6)).toNatClampNeg)).toInt64) &&& (Int64.ofInt 4294967295))) ((((X.2 ((x4 + (Int32.ofInt 7)).toNatClampNeg)).toInt64) <<< (((Int32.ofInt 32)).toInt64 &&& 63)) ||| (((X.2 ((x4 + (Int32.ofInt 8)).toNatClampNeg)).toInt64) &&& (Int64.ofInt 4294967295))) ((((X.2 ((x4 + (Int32.ofInt 9)).toNatClampNeg)).toInt64) <<< (((Int32.ofInt 32)).toInt64 &&& 63)) ||| (((X.2 ((x4 + (Int32.ofInt 10)).toNatClampNeg)).toInt64) &&& (Int64.ofInt 4294967295))) (X.2 ((x4 + (Int32.ofInt 11)).toNatClampNeg)) (X.2 ((x4 + (Int32.ofInt 12)).toNatClampNeg)) (X.2 ((x4 + (Int32.ofInt 13)).toNatClampNeg))
  refine zl_LB (p := 1551) (p1 := 1554) (p' := 1683) (p2 := 1686) (p5 := 1689) (p3 := 1692) rfl (zOLB_mono hq (fun w hw => zn_ro h hw)) zNx_w (fun M => ?_) (fun M y W => ?_) (fun M x5 y W => zl_1686 X _ M W x4 x5 y) (fun M x5 x6 W hb hl => (zl_1692 X _ M W x4 x5 x6 x5).trans (z_endB hb hl))
  · rw [zl_23, if_neg hlt, z_gd_of h0, hk, if_neg (by decide), if_neg (by decide), if_neg (by decide), if_neg (by decide), if_neg (by decide), if_neg (by decide), if_neg (by decide), if_neg (by decide), if_neg (by decide), if_neg (by decide), if_neg (by decide), if_neg (by decide), if_neg (by decide), if_neg (by decide), if_neg (by decide), if_neg (by decide), if_neg (by decide), if_neg (by decide), if_neg (by decide), if_neg (by decide), if_neg (by decide), if_pos rfl, z_gd_of (hin 1 (by decide) (by decide)), z_gd_of (hin 2 (by decide) (by decide)), z_gd_of (hin 3 (by decide) (by decide)), z_gd_of (hin 4 (by decide) (by decide)), z_gd_of (hin 5 (by decide) (by decide)), z_gd_of (hin 6 (by decide) (by decide)), z_gd_of (hin 7 (by decide) (by decide)), z_gd_of (hin 8 (by decide) (by decide)), z_gd_of (hin 9 (by decide) (by decide)), z_gd_of (hin 10 (by decide) (by decide)), z_gd_of (hin 11 (by decide) (by decide)), z_gd_of (hin 12 (by decide) (by decide)), z_gd_of (hin 13 (by decide) (by decide))]
  · refine (zl_1554 X _ M W x4 y).trans ?_
    rw [z_gd_of (hin 1 (by decide) (by decide)), z_gd_of (hin 2 (by decide) (by decide)), z_gd_of (hin 3 (by decide) (by decide)), z_gd_of (hin 4 (by decide) (by decide)), z_gd_of (hin 5 (by decide) (by decide)), z_gd_of (hin 6 (by decide) (by decide)), z_gd_of (hin 7 (by decide) (by decide)), z_gd_of (hin 8 (by decide) (by decide)), z_gd_of (hin 9 (by decide) (by decide)), z_gd_of (hin 10 (by decide) (by decide)), z_gd_of (hin 11 (by decide) (by decide)), z_gd_of (hin 12 (by decide) (by decide)), z_gd_of (hin 13 (by decide) (by decide))]
set_option maxRecDepth 100000 in
theorem zs_22 (X : ZX) (d : Nat) {x4 : Int32} (hlt : ¬ (Int32.ofNat X.1 - Int32.ofInt 14) < x4) (h0 : z_in x4 X.1 = true) (hin : ∀ j : Int, 1 ≤ j → j ≤ 13 → z_in (x4 + Int32.ofInt j) X.1 = true) (hk : (X.2 x4.toNatClampNeg) &&& (Int32.ofInt 31) = Int32.ofInt 22) {C m t u r q ce sl : Nat} {I : Nat → Nat → Int32} {L : Nat → Nat → Int64} (hC : C ≤ 511) (h : zRel C m t u r q I L) : zTurn X (z_run X z_cf z_ff (d + 200)) x4 (zw m t u r q ce sl I L) (zNx C ce sl) := by
  obtain ⟨gS, ⟨p0, hp⟩, gT, gC, gP, gK, gO, gR, gU, gW, gV, gY, gTU, gRQ, gF⟩ := id h
  have hq := zo_waves X d m ce sl I L t u r q gS hp (X.2 ((x4 + (Int32.ofInt 1)).toNatClampNeg)) (X.2 ((x4 + (Int32.ofInt 2)).toNatClampNeg)) (X.2 ((x4 + (Int32.ofInt 3)).toNatClampNeg)) (X.2 ((x4 + (Int32.ofInt 4)).toNatClampNeg)) (X.2 ((x4 + (Int32.ofInt 5)).toNatClampNeg)) (X.2 ((x4 + (Int32.ofInt 6)).toNatClampNeg)) (X.2 ((x4 + (Int32.ofInt 7)).toNatClampNeg)) (X.2 ((x4 + (Int32.ofInt 8)).toNatClampNeg)) (X.2 ((x4 + (Int32.ofInt 9)).toNatClampNeg))
  refine zl_L (p := 1786) (p1 := 1789) (p' := 1850) (p2 := 1853) (p5 := 1856) (p3 := 1859) rfl (zOL_mono hq (fun w hw => zn_waves h hw)) zNx_w (fun M => ?_) (fun M y W => ?_) (fun M x5 y W => zl_1853 X _ M W x4 x5 y) (fun M x5 x6 W hl => (zl_1859 X _ M W x4 x5 x6 x5).trans (z_end3 hl))
  · rw [zl_23, if_neg hlt, z_gd_of h0, hk, if_neg (by decide), if_neg (by decide), if_neg (by decide), if_neg (by decide), if_neg (by decide), if_neg (by decide), if_neg (by decide), if_neg (by decide), if_neg (by decide), if_neg (by decide), if_neg (by decide), if_neg (by decide), if_neg (by decide), if_neg (by decide), if_neg (by decide), if_neg (by decide), if_neg (by decide), if_neg (by decide), if_neg (by decide), if_neg (by decide), if_neg (by decide), if_neg (by decide), if_pos rfl, z_gd_of (hin 1 (by decide) (by decide)), z_gd_of (hin 2 (by decide) (by decide)), z_gd_of (hin 3 (by decide) (by decide)), z_gd_of (hin 4 (by decide) (by decide)), z_gd_of (hin 5 (by decide) (by decide)), z_gd_of (hin 6 (by decide) (by decide)), z_gd_of (hin 7 (by decide) (by decide)), z_gd_of (hin 8 (by decide) (by decide)), z_gd_of (hin 9 (by decide) (by decide))]
  · refine (zl_1789 X _ M W x4 y).trans ?_
    rw [z_gd_of (hin 1 (by decide) (by decide)), z_gd_of (hin 2 (by decide) (by decide)), z_gd_of (hin 3 (by decide) (by decide)), z_gd_of (hin 4 (by decide) (by decide)), z_gd_of (hin 5 (by decide) (by decide)), z_gd_of (hin 6 (by decide) (by decide)), z_gd_of (hin 7 (by decide) (by decide)), z_gd_of (hin 8 (by decide) (by decide)), z_gd_of (hin 9 (by decide) (by decide))]
set_option maxRecDepth 100000 in
theorem zs_23 (X : ZX) (d : Nat) {x4 : Int32} (hlt : ¬ (Int32.ofNat X.1 - Int32.ofInt 14) < x4) (h0 : z_in x4 X.1 = true) (hin : ∀ j : Int, 1 ≤ j → j ≤ 13 → z_in (x4 + Int32.ofInt j) X.1 = true) (hk : (X.2 x4.toNatClampNeg) &&& (Int32.ofInt 31) = Int32.ofInt 23) {C m t u r q ce sl : Nat} {I : Nat → Nat → Int32} {L : Nat → Nat → Int64} (hC : C ≤ 511) (h : zRel C m t u r q I L) : zTurn X (z_run X z_cf z_ff (d + 200)) x4 (zw m t u r q ce sl I L) (zNx C ce sl) := by
  obtain ⟨gS, ⟨p0, hp⟩, gT, gC, gP, gK, gO, gR, gU, gW, gV, gY, gTU, gRQ, gF⟩ := id h
  have hq := zo_order2 X d m ce sl I L t u r q gO (X.2 ((x4 + (Int32.ofInt 1)).toNatClampNeg)) (X.2 ((x4 + (Int32.ofInt 2)).toNatClampNeg)) (X.2 ((x4 + (Int32.ofInt 3)).toNatClampNeg)) (X.2 ((x4 + (Int32.ofInt 4)).toNatClampNeg))
  refine zl_X (p := 1911) (p1 := 1914) (p' := 1939) (p2 := 1942) rfl (zOX_mono hq (fun w hw => zn_order h hw)) (fun M => ?_) (fun M y W => ?_) (fun M y W => ?_)
  · rw [zl_23, if_neg hlt, z_gd_of h0, hk, if_neg (by decide), if_neg (by decide), if_neg (by decide), if_neg (by decide), if_neg (by decide), if_neg (by decide), if_neg (by decide), if_neg (by decide), if_neg (by decide), if_neg (by decide), if_neg (by decide), if_neg (by decide), if_neg (by decide), if_neg (by decide), if_neg (by decide), if_neg (by decide), if_neg (by decide), if_neg (by decide), if_neg (by decide), if_neg (by decide), if_neg (by decide), if_neg (by decide), if_neg (by decide), if_pos rfl, z_gd_of (hin 1 (by decide) (by decide)), z_gd_of (hin 2 (by decide) (by decide)), z_gd_of (hin 3 (by decide) (by decide)), z_gd_of (hin 4 (by decide) (by decide))]
  · refine (zl_1914 X _ M W x4 y).trans ?_
    rw [z_gd_of (hin 1 (by decide) (by decide)), z_gd_of (hin 2 (by decide) (by decide)), z_gd_of (hin 3 (by decide) (by decide)), z_gd_of (hin 4 (by decide) (by decide))]
  · exact (zl_1942 X _ M W x4 y y).trans (if_pos rfl)
set_option maxRecDepth 100000 in
theorem zs_24 (X : ZX) (d : Nat) {x4 : Int32} (hlt : ¬ (Int32.ofNat X.1 - Int32.ofInt 14) < x4) (h0 : z_in x4 X.1 = true) (hin : ∀ j : Int, 1 ≤ j → j ≤ 13 → z_in (x4 + Int32.ofInt j) X.1 = true) (hk : (X.2 x4.toNatClampNeg) &&& (Int32.ofInt 31) = Int32.ofInt 24) {C m t u r q ce sl : Nat} {I : Nat → Nat → Int32} {L : Nat → Nat → Int64} (hC : C ≤ 511) (h : zRel C m t u r q I L) : zTurn X (z_run X z_cf z_ff (d + 200)) x4 (zw m t u r q ce sl I L) (zNx C ce sl) := by
  obtain ⟨gS, ⟨p0, hp⟩, gT, gC, gP, gK, gO, gR, gU, gW, gV, gY, gTU, gRQ, gF⟩ := id h
  have hq := zo_row X d m ce sl I L t u r q gS.1 gO gY gRQ
  refine zl_X (p := 1948) (p1 := 1951) (p' := 1952) (p2 := 1955) rfl (zOX_mono hq (fun w hw => zn_row h hw)) (fun M => ?_) (fun M y W => ?_) (fun M y W => ?_)
  · rw [zl_23, if_neg hlt, z_gd_of h0, hk, if_neg (by decide), if_neg (by decide), if_neg (by decide), if_neg (by decide), if_neg (by decide), if_neg (by decide), if_neg (by decide), if_neg (by decide), if_neg (by decide), if_neg (by decide), if_neg (by decide), if_neg (by decide), if_neg (by decide), if_neg (by decide), if_neg (by decide), if_neg (by decide), if_neg (by decide), if_neg (by decide), if_neg (by decide), if_neg (by decide), if_neg (by decide), if_neg (by decide), if_neg (by decide), if_neg (by decide), if_pos rfl]
  · refine (zl_1951 X _ M W x4 y).trans ?_
    rfl
  · exact (zl_1955 X _ M W x4 y y).trans (if_pos rfl)
set_option maxRecDepth 100000 in
theorem zs_25 (X : ZX) (d : Nat) {x4 : Int32} (hlt : ¬ (Int32.ofNat X.1 - Int32.ofInt 14) < x4) (h0 : z_in x4 X.1 = true) (hin : ∀ j : Int, 1 ≤ j → j ≤ 13 → z_in (x4 + Int32.ofInt j) X.1 = true) (hk : (X.2 x4.toNatClampNeg) &&& (Int32.ofInt 31) = Int32.ofInt 25) {C m t u r q ce sl : Nat} {I : Nat → Nat → Int32} {L : Nat → Nat → Int64} (hC : C ≤ 511) (h : zRel C m t u r q I L) : zTurn X (z_run X z_cf z_ff (d + 200)) x4 (zw m t u r q ce sl I L) (zNx C ce sl) := by
  obtain ⟨gS, ⟨p0, hp⟩, gT, gC, gP, gK, gO, gR, gU, gW, gV, gY, gTU, gRQ, gF⟩ := id h
  have hq := zo_rowed X d m ce sl I L t u r q gO gY (X.2 ((x4 + (Int32.ofInt 1)).toNatClampNeg))
  refine zl_L (p := 1968) (p1 := 1971) (p' := 1980) (p2 := 1983) (p5 := 1986) (p3 := 1989) rfl (zOL_mono hq (fun w hw => zn_ro h hw)) zNx_w (fun M => ?_) (fun M y W => ?_) (fun M x5 y W => zl_1983 X _ M W x4 x5 y) (fun M x5 x6 W hl => (zl_1989 X _ M W x4 x5 x6 x5).trans (z_end3 hl))
  · rw [zl_23, if_neg hlt, z_gd_of h0, hk, if_neg (by decide), if_neg (by decide), if_neg (by decide), if_neg (by decide), if_neg (by decide), if_neg (by decide), if_neg (by decide), if_neg (by decide), if_neg (by decide), if_neg (by decide), if_neg (by decide), if_neg (by decide), if_neg (by decide), if_neg (by decide), if_neg (by decide), if_neg (by decide), if_neg (by decide), if_neg (by decide), if_neg (by decide), if_neg (by decide), if_neg (by decide), if_neg (by decide), if_neg (by decide), if_neg (by decide), if_neg (by decide), if_pos rfl, z_gd_of (hin 1 (by decide) (by decide))]
  · refine (zl_1971 X _ M W x4 y).trans ?_
    rw [z_gd_of (hin 1 (by decide) (by decide))]
set_option maxRecDepth 100000 in
theorem zs_26 (X : ZX) (d : Nat) {x4 : Int32} (hlt : ¬ (Int32.ofNat X.1 - Int32.ofInt 14) < x4) (h0 : z_in x4 X.1 = true) (hin : ∀ j : Int, 1 ≤ j → j ≤ 13 → z_in (x4 + Int32.ofInt j) X.1 = true) (hk : (X.2 x4.toNatClampNeg) &&& (Int32.ofInt 31) = Int32.ofInt 26) {C m t u r q ce sl : Nat} {I : Nat → Nat → Int32} {L : Nat → Nat → Int64} (hC : C ≤ 511) (h : zRel C m t u r q I L) : zTurn X (z_run X z_cf z_ff (d + 200)) x4 (zw m t u r q ce sl I L) (zNx C ce sl) := by
  obtain ⟨gS, ⟨p0, hp⟩, gT, gC, gP, gK, gO, gR, gU, gW, gV, gY, gTU, gRQ, gF⟩ := id h
  have hq := zo_evenings X d m ce sl I L t u r q gR (X.2 ((x4 + (Int32.ofInt 1)).toNatClampNeg))
  refine zl_L (p := 2024) (p1 := 2027) (p' := 2036) (p2 := 2039) (p5 := 2042) (p3 := 2045) rfl (zOL_mono hq (fun w hw => zn_evenings h hw)) zNx_w (fun M => ?_) (fun M y W => ?_) (fun M x5 y W => zl_2039 X _ M W x4 x5 y) (fun M x5 x6 W hl => (zl_2045 X _ M W x4 x5 x6 x5).trans (z_end3 hl))
  · rw [zl_23, if_neg hlt, z_gd_of h0, hk, if_neg (by decide), if_neg (by decide), if_neg (by decide), if_neg (by decide), if_neg (by decide), if_neg (by decide), if_neg (by decide), if_neg (by decide), if_neg (by decide), if_neg (by decide), if_neg (by decide), if_neg (by decide), if_neg (by decide), if_neg (by decide), if_neg (by decide), if_neg (by decide), if_neg (by decide), if_neg (by decide), if_neg (by decide), if_neg (by decide), if_neg (by decide), if_neg (by decide), if_neg (by decide), if_neg (by decide), if_neg (by decide), if_neg (by decide), if_pos rfl, z_gd_of (hin 1 (by decide) (by decide))]
  · refine (zl_2027 X _ M W x4 y).trans ?_
    rw [z_gd_of (hin 1 (by decide) (by decide))]
set_option maxRecDepth 100000 in
theorem zs_27 (X : ZX) (d : Nat) {x4 : Int32} (hlt : ¬ (Int32.ofNat X.1 - Int32.ofInt 14) < x4) (h0 : z_in x4 X.1 = true) (hin : ∀ j : Int, 1 ≤ j → j ≤ 13 → z_in (x4 + Int32.ofInt j) X.1 = true) (hk : (X.2 x4.toNatClampNeg) &&& (Int32.ofInt 31) = Int32.ofInt 27) {C m t u r q ce sl : Nat} {I : Nat → Nat → Int32} {L : Nat → Nat → Int64} (hC : C ≤ 511) (h : zRel C m t u r q I L) : zTurn X (z_run X z_cf z_ff (d + 200)) x4 (zw m t u r q ce sl I L) (zNx C ce sl) := by
  obtain ⟨gS, ⟨p0, hp⟩, gT, gC, gP, gK, gO, gR, gU, gW, gV, gY, gTU, gRQ, gF⟩ := id h
  have hq := zo_reading X d m ce sl I L t u r q gR (X.2 ((x4 + (Int32.ofInt 1)).toNatClampNeg)) (X.2 ((x4 + (Int32.ofInt 2)).toNatClampNeg)) (X.2 ((x4 + (Int32.ofInt 3)).toNatClampNeg))
  refine zl_X (p := 2091) (p1 := 2094) (p' := 2113) (p2 := 2116) rfl (zOX_mono hq (fun w hw => zn_reading h hw)) (fun M => ?_) (fun M y W => ?_) (fun M y W => ?_)
  · rw [zl_23, if_neg hlt, z_gd_of h0, hk, if_neg (by decide), if_neg (by decide), if_neg (by decide), if_neg (by decide), if_neg (by decide), if_neg (by decide), if_neg (by decide), if_neg (by decide), if_neg (by decide), if_neg (by decide), if_neg (by decide), if_neg (by decide), if_neg (by decide), if_neg (by decide), if_neg (by decide), if_neg (by decide), if_neg (by decide), if_neg (by decide), if_neg (by decide), if_neg (by decide), if_neg (by decide), if_neg (by decide), if_neg (by decide), if_neg (by decide), if_neg (by decide), if_neg (by decide), if_neg (by decide), if_pos rfl, z_gd_of (hin 1 (by decide) (by decide)), z_gd_of (hin 2 (by decide) (by decide)), z_gd_of (hin 3 (by decide) (by decide))]
  · refine (zl_2094 X _ M W x4 y).trans ?_
    rw [z_gd_of (hin 1 (by decide) (by decide)), z_gd_of (hin 2 (by decide) (by decide)), z_gd_of (hin 3 (by decide) (by decide))]
  · exact (zl_2116 X _ M W x4 y y).trans (if_pos rfl)
set_option maxRecDepth 100000 in
theorem zs_28 (X : ZX) (d : Nat) {x4 : Int32} (hlt : ¬ (Int32.ofNat X.1 - Int32.ofInt 14) < x4) (h0 : z_in x4 X.1 = true) (hin : ∀ j : Int, 1 ≤ j → j ≤ 13 → z_in (x4 + Int32.ofInt j) X.1 = true) (hk : (X.2 x4.toNatClampNeg) &&& (Int32.ofInt 31) = Int32.ofInt 28) {C m t u r q ce sl : Nat} {I : Nat → Nat → Int32} {L : Nat → Nat → Int64} (hC : C ≤ 511) (h : zRel C m t u r q I L) : zTurn X (z_run X z_cf z_ff (d + 200)) x4 (zw m t u r q ce sl I L) (zNx C ce sl) := by
  obtain ⟨gS, ⟨p0, hp⟩, gT, gC, gP, gK, gO, gR, gU, gW, gV, gY, gTU, gRQ, gF⟩ := id h
  have hq := zo_backB X d m ce sl I L t u r q gR (X.2 ((x4 + (Int32.ofInt 1)).toNatClampNeg))
  refine zl_LB (p := 2129) (p1 := 2132) (p' := 2141) (p2 := 2144) (p5 := 2147) (p3 := 2150) rfl (zOLB_mono hq (fun w hw => zn_back h hw)) zNx_w (fun M => ?_) (fun M y W => ?_) (fun M x5 y W => zl_2144 X _ M W x4 x5 y) (fun M x5 x6 W hb hl => (zl_2150 X _ M W x4 x5 x6 x5).trans (z_endB hb hl))
  · rw [zl_23, if_neg hlt, z_gd_of h0, hk, if_neg (by decide), if_neg (by decide), if_neg (by decide), if_neg (by decide), if_neg (by decide), if_neg (by decide), if_neg (by decide), if_neg (by decide), if_neg (by decide), if_neg (by decide), if_neg (by decide), if_neg (by decide), if_neg (by decide), if_neg (by decide), if_neg (by decide), if_neg (by decide), if_neg (by decide), if_neg (by decide), if_neg (by decide), if_neg (by decide), if_neg (by decide), if_neg (by decide), if_neg (by decide), if_neg (by decide), if_neg (by decide), if_neg (by decide), if_neg (by decide), if_neg (by decide), if_pos rfl, z_gd_of (hin 1 (by decide) (by decide))]
  · refine (zl_2132 X _ M W x4 y).trans ?_
    rw [z_gd_of (hin 1 (by decide) (by decide))]
set_option maxRecDepth 100000 in
theorem zs_29 (X : ZX) (d : Nat) {x4 : Int32} (hlt : ¬ (Int32.ofNat X.1 - Int32.ofInt 14) < x4) (h0 : z_in x4 X.1 = true) (hin : ∀ j : Int, 1 ≤ j → j ≤ 13 → z_in (x4 + Int32.ofInt j) X.1 = true) (hk : (X.2 x4.toNatClampNeg) &&& (Int32.ofInt 31) = Int32.ofInt 29) {C m t u r q ce sl : Nat} {I : Nat → Nat → Int32} {L : Nat → Nat → Int64} (hC : C ≤ 511) (h : zRel C m t u r q I L) : zTurn X (z_run X z_cf z_ff (d + 200)) x4 (zw m t u r q ce sl I L) (zNx C ce sl) := by
  obtain ⟨gS, ⟨p0, hp⟩, gT, gC, gP, gK, gO, gR, gU, gW, gV, gY, gTU, gRQ, gF⟩ := id h
  have hq := zo_known X d m ce sl I L t u r q gR (X.2 ((x4 + (Int32.ofInt 1)).toNatClampNeg)) (X.2 ((x4 + (Int32.ofInt 2)).toNatClampNeg)) (X.2 ((x4 + (Int32.ofInt 3)).toNatClampNeg)) (X.2 ((x4 + (Int32.ofInt 4)).toNatClampNeg)) (X.2 ((x4 + (Int32.ofInt 5)).toNatClampNeg))
  refine zl_L (p := 2216) (p1 := 2219) (p' := 2252) (p2 := 2255) (p5 := 2258) (p3 := 2261) rfl (zOL_mono hq (fun w hw => zn_known h hw)) zNx_w (fun M => ?_) (fun M y W => ?_) (fun M x5 y W => zl_2255 X _ M W x4 x5 y) (fun M x5 x6 W hl => (zl_2261 X _ M W x4 x5 x6 x5).trans (z_end3 hl))
  · rw [zl_23, if_neg hlt, z_gd_of h0, hk, if_neg (by decide), if_neg (by decide), if_neg (by decide), if_neg (by decide), if_neg (by decide), if_neg (by decide), if_neg (by decide), if_neg (by decide), if_neg (by decide), if_neg (by decide), if_neg (by decide), if_neg (by decide), if_neg (by decide), if_neg (by decide), if_neg (by decide), if_neg (by decide), if_neg (by decide), if_neg (by decide), if_neg (by decide), if_neg (by decide), if_neg (by decide), if_neg (by decide), if_neg (by decide), if_neg (by decide), if_neg (by decide), if_neg (by decide), if_neg (by decide), if_neg (by decide), if_neg (by decide), if_pos rfl, z_gd_of (hin 1 (by decide) (by decide)), z_gd_of (hin 2 (by decide) (by decide)), z_gd_of (hin 3 (by decide) (by decide)), z_gd_of (hin 4 (by decide) (by decide)), z_gd_of (hin 5 (by decide) (by decide))]
  · refine (zl_2219 X _ M W x4 y).trans ?_
    rw [z_gd_of (hin 1 (by decide) (by decide)), z_gd_of (hin 2 (by decide) (by decide)), z_gd_of (hin 3 (by decide) (by decide)), z_gd_of (hin 4 (by decide) (by decide)), z_gd_of (hin 5 (by decide) (by decide))]
set_option maxRecDepth 100000 in
theorem zs_30 (X : ZX) (d : Nat) {x4 : Int32} (hlt : ¬ (Int32.ofNat X.1 - Int32.ofInt 14) < x4) (h0 : z_in x4 X.1 = true) (hin : ∀ j : Int, 1 ≤ j → j ≤ 13 → z_in (x4 + Int32.ofInt j) X.1 = true) (hk : (X.2 x4.toNatClampNeg) &&& (Int32.ofInt 31) = Int32.ofInt 30) {C m t u r q ce sl : Nat} {I : Nat → Nat → Int32} {L : Nat → Nat → Int64} (hC : C ≤ 511) (h : zRel C m t u r q I L) : zTurn X (z_run X z_cf z_ff (d + 200)) x4 (zw m t u r q ce sl I L) (zNx C ce sl) := by
  obtain ⟨gS, ⟨p0, hp⟩, gT, gC, gP, gK, gO, gR, gU, gW, gV, gY, gTU, gRQ, gF⟩ := id h
  have hq := zo_count X d m ce sl I L t u r q gS hp gC gP gO gR gT (X.2 ((x4 + (Int32.ofInt 1)).toNatClampNeg))
  refine zl_L (p := 2296) (p1 := 2299) (p' := 2308) (p2 := 2311) (p5 := 2314) (p3 := 2317) rfl (zOL_mono hq (fun w hw => zn_ro h hw)) zNx_w (fun M => ?_) (fun M y W => ?_) (fun M x5 y W => zl_2311 X _ M W x4 x5 y) (fun M x5 x6 W hl => (zl_2317 X _ M W x4 x5 x6 x5).trans (z_end3 hl))
  · rw [zl_23, if_neg hlt, z_gd_of h0, hk, if_neg (by decide), if_neg (by decide), if_neg (by decide), if_neg (by decide), if_neg (by decide), if_neg (by decide), if_neg (by decide), if_neg (by decide), if_neg (by decide), if_neg (by decide), if_neg (by decide), if_neg (by decide), if_neg (by decide), if_neg (by decide), if_neg (by decide), if_neg (by decide), if_neg (by decide), if_neg (by decide), if_neg (by decide), if_neg (by decide), if_neg (by decide), if_neg (by decide), if_neg (by decide), if_neg (by decide), if_neg (by decide), if_neg (by decide), if_neg (by decide), if_neg (by decide), if_neg (by decide), if_neg (by decide), if_pos rfl, z_gd_of (hin 1 (by decide) (by decide))]
  · refine (zl_2299 X _ M W x4 y).trans ?_
    rw [z_gd_of (hin 1 (by decide) (by decide))]
set_option maxRecDepth 100000 in
theorem zs_31 (X : ZX) (d : Nat) {x4 : Int32} (hlt : ¬ (Int32.ofNat X.1 - Int32.ofInt 14) < x4) (h0 : z_in x4 X.1 = true) (hin : ∀ j : Int, 1 ≤ j → j ≤ 13 → z_in (x4 + Int32.ofInt j) X.1 = true) (hk : (X.2 x4.toNatClampNeg) &&& (Int32.ofInt 31) = Int32.ofInt 31) {C m t u r q ce sl : Nat} {I : Nat → Nat → Int32} {L : Nat → Nat → Int64} (hC : C ≤ 511) (h : zRel C m t u r q I L) : zTurn X (z_run X z_cf z_ff (d + 200)) x4 (zw m t u r q ce sl I L) (zNx C ce sl) := by
  have hn : zNx C ce sl (zw m t u r q ce sl I L) := by
    obtain ⟨gS, gr⟩ := h
    exact ⟨m, ce, sl, t, u, r, q, I, L, rfl, by omega, by omega, zg_S_le gS (Nat.le_succ C), gr⟩
  refine ⟨1, _, by omega, hn, fun M => ?_⟩
  rw [zl_23, if_neg hlt, z_gd_of h0, hk, if_neg (by decide), if_neg (by decide), if_neg (by decide), if_neg (by decide), if_neg (by decide), if_neg (by decide), if_neg (by decide), if_neg (by decide), if_neg (by decide), if_neg (by decide), if_neg (by decide), if_neg (by decide), if_neg (by decide), if_neg (by decide), if_neg (by decide), if_neg (by decide), if_neg (by decide), if_neg (by decide), if_neg (by decide), if_neg (by decide), if_neg (by decide), if_neg (by decide), if_neg (by decide), if_neg (by decide), if_neg (by decide), if_neg (by decide), if_neg (by decide), if_neg (by decide), if_neg (by decide), if_neg (by decide), if_neg (by decide)]
theorem z_c31 (x : Int32) : ∃ k : Nat, k < 32 ∧ x &&& Int32.ofInt 31 = Int32.ofNat k := by
  have e : (Int32.ofInt 31).toBitVec.toNat = 31 := by decide
  have e1 : (x &&& Int32.ofInt 31).toBitVec.toNat ≤ 31 := by
    rw [Int32.toBitVec_and, BitVec.toNat_and]
    have := Nat.and_le_right (n := x.toBitVec.toNat) (m := (Int32.ofInt 31).toBitVec.toNat)
    omega
  refine ⟨(x &&& Int32.ofInt 31).toBitVec.toNat, by omega, ?_⟩
  apply Int32.toBitVec_inj.mp
  rw [Int32.toBitVec_ofNat', BitVec.ofNat_toNat, BitVec.setWidth_eq]
theorem zs_all (X : ZX) (d : Nat) {x4 : Int32} (hlt : ¬ (Int32.ofNat X.1 - Int32.ofInt 14) < x4) (h0 : z_in x4 X.1 = true) (hin : ∀ j : Int, 1 ≤ j → j ≤ 13 → z_in (x4 + Int32.ofInt j) X.1 = true) {C m t u r q ce sl : Nat} {I : Nat → Nat → Int32} {L : Nat → Nat → Int64} (hC : C ≤ 511) (h : zRel C m t u r q I L) : zTurn X (z_run X z_cf z_ff (d + 200)) x4 (zw m t u r q ce sl I L) (zNx C ce sl) := by
  obtain ⟨k, hk1, hk⟩ := z_c31 (X.2 x4.toNatClampNeg)
  have hk2 : k = 0 ∨ k = 1 ∨ k = 2 ∨ k = 3 ∨ k = 4 ∨ k = 5 ∨ k = 6 ∨ k = 7 ∨ k = 8 ∨ k = 9 ∨ k = 10 ∨ k = 11 ∨ k = 12 ∨ k = 13 ∨ k = 14 ∨ k = 15 ∨ k = 16 ∨ k = 17 ∨ k = 18 ∨ k = 19 ∨ k = 20 ∨ k = 21 ∨ k = 22 ∨ k = 23 ∨ k = 24 ∨ k = 25 ∨ k = 26 ∨ k = 27 ∨ k = 28 ∨ k = 29 ∨ k = 30 ∨ k = 31 := by omega
  rcases hk2 with rfl | rfl | rfl | rfl | rfl | rfl | rfl | rfl | rfl | rfl | rfl | rfl | rfl | rfl | rfl | rfl | rfl | rfl | rfl | rfl | rfl | rfl | rfl | rfl | rfl | rfl | rfl | rfl | rfl | rfl | rfl | rfl
  · exact zs_0 X d hlt h0 hin hk hC h
  · exact zs_1 X d hlt h0 hin hk hC h
  · exact zs_2 X d hlt h0 hin hk hC h
  · exact zs_3 X d hlt h0 hin hk hC h
  · exact zs_4 X d hlt h0 hin hk hC h
  · exact zs_5 X d hlt h0 hin hk hC h
  · exact zs_6 X d hlt h0 hin hk hC h
  · exact zs_7 X d hlt h0 hin hk hC h
  · exact zs_8 X d hlt h0 hin hk hC h
  · exact zs_9 X d hlt h0 hin hk hC h
  · exact zs_10 X d hlt h0 hin hk hC h
  · exact zs_11 X d hlt h0 hin hk hC h
  · exact zs_12 X d hlt h0 hin hk hC h
  · exact zs_13 X d hlt h0 hin hk hC h
  · exact zs_14 X d hlt h0 hin hk hC h
  · exact zs_15 X d hlt h0 hin hk hC h
  · exact zs_16 X d hlt h0 hin hk hC h
  · exact zs_17 X d hlt h0 hin hk hC h
  · exact zs_18 X d hlt h0 hin hk hC h
  · exact zs_19 X d hlt h0 hin hk hC h
  · exact zs_20 X d hlt h0 hin hk hC h
  · exact zs_21 X d hlt h0 hin hk hC h
  · exact zs_22 X d hlt h0 hin hk hC h
  · exact zs_23 X d hlt h0 hin hk hC h
  · exact zs_24 X d hlt h0 hin hk hC h
  · exact zs_25 X d hlt h0 hin hk hC h
  · exact zs_26 X d hlt h0 hin hk hC h
  · exact zs_27 X d hlt h0 hin hk hC h
  · exact zs_28 X d hlt h0 hin hk hC h
  · exact zs_29 X d hlt h0 hin hk hC h
  · exact zs_30 X d hlt h0 hin hk hC h
  · exact zs_31 X d hlt h0 hin hk hC h
