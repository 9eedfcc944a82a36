/-! CALLS, 34: run: where a gap goes -/
def zgap (lo hi sc g w : Int) : Int := max lo (min hi (max (g - sc) (min (g + sc) w)))
theorem zgap_c {lo hi sc g w : Int32} (h0 : 0 ≤ lo.toInt) (h1 : lo.toInt ≤ g.toInt) (h2 : g.toInt ≤ hi.toInt) (h3 : hi.toInt ≤ 60000) (h4 : 0 ≤ sc.toInt) (h5 : sc.toInt ≤ 60000) : (g + z_mxi (-sc) (z_mni sc (z_mxi lo (z_mni hi w) - g))).toInt = zgap lo.toInt hi.toInt sc.toInt g.toInt w.toInt := by
  have a1 := y_mni hi w
  have a2 := y_mxi lo (z_mni hi w)
  have a3 : (z_mxi lo (z_mni hi w) - g).toInt = (z_mxi lo (z_mni hi w)).toInt - g.toInt := y_sb (by omega) (by omega)
  have a4 := y_mni sc (z_mxi lo (z_mni hi w) - g)
  have a5 : (-sc).toInt = -sc.toInt := y_neg (by omega)
  have a6 := y_mxi (-sc) (z_mni sc (z_mxi lo (z_mni hi w) - g))
  rw [y_ad (by omega) (by omega)]
  unfold zgap
  omega
theorem zr_towards (X : ZX) (d m ce sl : Nat) (I : Nat → Nat → Int32) (L : Nat → Nat → Int64) (t u r q : Nat) (k : Nat) (hkm : k < m) (h5 : m ≤ 5) (w : Int32) : z_pu (z_run X z_cf z_ff (d + 3)) 98 [.ref (z_sd k), .int w] (118, z_sd m, ce, sl, I, L, z_rr t u r q (z_gg m) (z_sf m)) = some (.inl none, (118, z_sd m, ce, sl, z_up I (z_sd k) 8 (I (z_sd k) 8 + z_mxi (-(I (z_sd k) 4)) (z_mni (I (z_sd k) 4) (z_mxi (I (z_sd k) 2) (z_mni (I (z_sd k) 3) w) - I (z_sd k) 8))), L, z_rr t u r q (z_gg m) (z_sf m))) := by
  have hok : z_ok (118, z_sd m, ce, sl, I, L, z_rr t u r q (z_gg m) (z_sf m)) (z_sd k) 10 = true := z_okS (k := k) (m := m) hkm (by omega) 118 ce sl I L (z_rr t u r q (z_gg m) (z_sf m))
  rw [zk_Stand_moveTowards_0 X d, hok]
