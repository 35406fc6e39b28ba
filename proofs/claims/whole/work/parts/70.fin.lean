/-! ===== all calls, one by one, and the loop over them ===== -/
section FI
def Inv (c : CS) (d : DS) : Prop := St c.2.1 c.2.2.1 c.2.2.2.1 c.2.2.2.2.1 c.2.2.2.2.2.1 c.2.2.2.2.2.2.1 c.2.2.2.2.2.2.2.1 c.2.2.2.2.2.2.2.2.1 c.2.2.2.2.2.2.2.2.2.1 c.2.2.2.2.2.2.2.2.2.2.1 c.2.2.2.2.2.2.2.2.2.2.2.1 c.2.2.2.2.2.2.2.2.2.2.2.2.1 c.2.2.2.2.2.2.2.2.2.2.2.2.2.2 d.1 d.2.1 d.2.2.1 d.2.2.2.1 ∧ GR c.1 d.2.2.2.2.2.2.2.2.2.2.1 d.2.2.2.2.2.2.2.2.2.2.2.1 d.2.2.2.2.2.2.2.2.2.2.2.2.1
variable {N : Nat} {xs : Nat → Int32} {i : Nat} {o : Nat → Int64} {K : CS → DS → (Nat → Int64) → Prop}
theorem st_0 (hN : 70000 ≤ N) {c : CS} {d : DS} (hI : Inv c d) (hK : ∀ c' d' o', Inv c' d' → K c' d' o') : lk_0 N xs i c d o K := by
  obtain ⟨ge, la, lb, lc, ln, mx, my, md, mt, mv, mn, rs, rn, rw_, rk_⟩ := c
  obtain ⟨dn, da, db, dc, dk, dx, dy, dd, dr, dw, de, d1, d2, do0, dg, dra, drb, drc, dt⟩ := d
  have hS : St la lb lc ln mx my md mt mv mn rs rn rk_ dn da db dc := hI.1
  have hG : GR ge de d1 d2 := hI.2
  obtain ⟨u, v, h1, h2, h3, h4, h5⟩ := o_line hS hN dt o (xs (i + 1)) (xs (i + 2)) (xs (i + 3))
  exact ⟨u, v, _, h1, h2, rfl, h3, h4, hK _ _ _ ⟨h5, hG⟩⟩
theorem st_1 (hN : 70000 ≤ N) {c : CS} {d : DS} (hI : Inv c d) (hK : ∀ c' d' o', Inv c' d' → K c' d' o') : lk_1 N xs i c d o K := by
  obtain ⟨ge, la, lb, lc, ln, mx, my, md, mt, mv, mn, rs, rn, rw_, rk_⟩ := c
  obtain ⟨dn, da, db, dc, dk, dx, dy, dd, dr, dw, de, d1, d2, do0, dg, dra, drb, drc, dt⟩ := d
  have hS : St la lb lc ln mx my md mt mv mn rs rn rk_ dn da db dc := hI.1
  have hG : GR ge de d1 d2 := hI.2
  obtain ⟨u, v, h1, h2, h3, h4, h5⟩ := o_takeAway hS hN dt o (xs (i + 1))
  exact ⟨u, v, _, h1, h2, rfl, h3, h4, hK _ _ _ ⟨h5, hG⟩⟩
theorem st_2 (hN : 70000 ≤ N) {c : CS} {d : DS} (hI : Inv c d) (hK : ∀ c' d' o', Inv c' d' → K c' d' o') : lk_2 N xs i c d o K := by
  obtain ⟨ge, la, lb, lc, ln, mx, my, md, mt, mv, mn, rs, rn, rw_, rk_⟩ := c
  obtain ⟨dn, da, db, dc, dk, dx, dy, dd, dr, dw, de, d1, d2, do0, dg, dra, drb, drc, dt⟩ := d
  have hS : St la lb lc ln mx my md mt mv mn rs rn rk_ dn da db dc := hI.1
  have hG : GR ge de d1 d2 := hI.2
  have hS0 := hS
  obtain ⟨n, A, B, C, K', X, Y, D, ⟨rfl, rfl, hD, hD', hR, hU⟩, ⟨rfl, hK36, hM, hP, hT, hV⟩, hRN⟩ := hS
  obtain ⟨u, v, h1, h2, h3⟩ := o_meets hD' hR hN hM dk dx dy dd dt
  exact ⟨u, v, h1, h2, h3, hK _ _ _ ⟨hS0, hG⟩⟩
theorem st_3 (hN : 70000 ≤ N) {c : CS} {d : DS} (hI : Inv c d) (hK : ∀ c' d' o', Inv c' d' → K c' d' o') : lk_3 N xs i c d o K := by
  obtain ⟨ge, la, lb, lc, ln, mx, my, md, mt, mv, mn, rs, rn, rw_, rk_⟩ := c
  obtain ⟨dn, da, db, dc, dk, dx, dy, dd, dr, dw, de, d1, d2, do0, dg, dra, drb, drc, dt⟩ := d
  have hS : St la lb lc ln mx my md mt mv mn rs rn rk_ dn da db dc := hI.1
  have hG : GR ge de d1 d2 := hI.2
  have hS0 := hS
  obtain ⟨n, A, B, C, K', X, Y, D, ⟨rfl, rfl, hD, hD', hR, hU⟩, ⟨rfl, hK36, hM, hP, hT, hV⟩, hRN⟩ := hS
  obtain ⟨u, v, h1, h2, h3, h4⟩ := o_meet hD' hR hN hM hP hT hK36 dk dx dy dd dt o (xs (i + 1)) (xs (i + 2))
  exact ⟨u, v, _, h1, h2, rfl, h3, h4, hK _ _ _ ⟨hS0, hG⟩⟩
theorem st_4 (hN : 70000 ≤ N) {c : CS} {d : DS} (hI : Inv c d) (hK : ∀ c' d' o', Inv c' d' → K c' d' o') : lk_4 N xs i c d o K := by
  obtain ⟨ge, la, lb, lc, ln, mx, my, md, mt, mv, mn, rs, rn, rw_, rk_⟩ := c
  obtain ⟨dn, da, db, dc, dk, dx, dy, dd, dr, dw, de, d1, d2, do0, dg, dra, drb, drc, dt⟩ := d
  have hS : St la lb lc ln mx my md mt mv mn rs rn rk_ dn da db dc := hI.1
  have hG : GR ge de d1 d2 := hI.2
  have hS0 := hS
  obtain ⟨n, A, B, C, K', X, Y, D, ⟨rfl, rfl, hD, hD', hR, hU⟩, ⟨rfl, hK36, hM, hP, hT, hV⟩, hRN⟩ := hS
  obtain ⟨u, v, h1, h2, h3, h4⟩ := o_polynomial hD' hR hN hM hT hK36 dk dx dy dd dt o (xs (i + 1))
  exact ⟨u, v, _, h1, h2, rfl, h3, h4, hK _ _ _ ⟨hS0, hG⟩⟩
theorem st_5 (hN : 70000 ≤ N) {c : CS} {d : DS} (hI : Inv c d) (hK : ∀ c' d' o', Inv c' d' → K c' d' o') : lk_5 N xs i c d o K := by
  obtain ⟨ge, la, lb, lc, ln, mx, my, md, mt, mv, mn, rs, rn, rw_, rk_⟩ := c
  obtain ⟨dn, da, db, dc, dk, dx, dy, dd, dr, dw, de, d1, d2, do0, dg, dra, drb, drc, dt⟩ := d
  have hS : St la lb lc ln mx my md mt mv mn rs rn rk_ dn da db dc := hI.1
  have hG : GR ge de d1 d2 := hI.2
  have hS0 := hS
  obtain ⟨n, A, B, C, K', X, Y, D, ⟨rfl, rfl, hD, hD', hR, hU⟩, ⟨rfl, hK36, hM, hP, hT, hV⟩, hRN⟩ := hS
  obtain ⟨u, v, h1, h2, h3, h4⟩ := o_polynomialAnew hD hD' hR hU hN hM hK36 dk dx dy dd dt o (xs (i + 1))
  exact ⟨u, v, _, h1, h2, rfl, h3, h4, hK _ _ _ ⟨hS0, hG⟩⟩
theorem st_6 (hN : 70000 ≤ N) {c : CS} {d : DS} (hI : Inv c d) (hK : ∀ c' d' o', Inv c' d' → K c' d' o') : lk_6 N xs i c d o K := by
  obtain ⟨ge, la, lb, lc, ln, mx, my, md, mt, mv, mn, rs, rn, rw_, rk_⟩ := c
  obtain ⟨dn, da, db, dc, dk, dx, dy, dd, dr, dw, de, d1, d2, do0, dg, dra, drb, drc, dt⟩ := d
  have hS : St la lb lc ln mx my md mt mv mn rs rn rk_ dn da db dc := hI.1
  have hG : GR ge de d1 d2 := hI.2
  have hS0 := hS
  obtain ⟨n, A, B, C, K', X, Y, D, ⟨rfl, rfl, hD, hD', hR, hU⟩, ⟨rfl, hK36, hM, hP, hT, hV⟩, hRN⟩ := hS
  obtain ⟨u, v, h1, h2, h3, h4⟩ := o_points hD hD' hR hN dt o (xs (i + 1))
  exact ⟨u, v, _, h1, h2, rfl, h3, h4, hK _ _ _ ⟨hS0, hG⟩⟩
theorem st_7 (hN : 70000 ≤ N) {c : CS} {d : DS} (hI : Inv c d) (hK : ∀ c' d' o', Inv c' d' → K c' d' o') : lk_7 N xs i c d o K := by
  obtain ⟨ge, la, lb, lc, ln, mx, my, md, mt, mv, mn, rs, rn, rw_, rk_⟩ := c
  obtain ⟨dn, da, db, dc, dk, dx, dy, dd, dr, dw, de, d1, d2, do0, dg, dra, drb, drc, dt⟩ := d
  have hS : St la lb lc ln mx my md mt mv mn rs rn rk_ dn da db dc := hI.1
  have hG : GR ge de d1 d2 := hI.2
  have hS0 := hS
  obtain ⟨n, A, B, C, K', X, Y, D, ⟨rfl, rfl, hD, hD', hR, hU⟩, ⟨rfl, hK36, hM, hP, hT, hV⟩, hRN⟩ := hS
  obtain ⟨u, v, h1, h2, h3⟩ := o_rooms hD' hR hU hN hM hK36 hRN dk dx dy dd dr dt
  exact ⟨u, v, h1, h2, h3, hK _ _ _ ⟨hS0, hG⟩⟩
theorem st_8 (hN : 70000 ≤ N) {c : CS} {d : DS} (hI : Inv c d) (hK : ∀ c' d' o', Inv c' d' → K c' d' o') : lk_8 N xs i c d o K := by
  obtain ⟨ge, la, lb, lc, ln, mx, my, md, mt, mv, mn, rs, rn, rw_, rk_⟩ := c
  obtain ⟨dn, da, db, dc, dk, dx, dy, dd, dr, dw, de, d1, d2, do0, dg, dra, drb, drc, dt⟩ := d
  have hS : St la lb lc ln mx my md mt mv mn rs rn rk_ dn da db dc := hI.1
  have hG : GR ge de d1 d2 := hI.2
  have hS0 := hS
  obtain ⟨n, A, B, C, K', X, Y, D, ⟨rfl, rfl, hD, hD', hR, hU⟩, ⟨rfl, hK36, hM, hP, hT, hV⟩, hRN⟩ := hS
  obtain ⟨u, v, h1, h2, h3⟩ := o_bounded hD hD' hR hU hN hM hK36 hRN dk dx dy dd dr dt
  exact ⟨u, v, h1, h2, h3, hK _ _ _ ⟨hS0, hG⟩⟩
theorem st_9 (hN : 70000 ≤ N) {c : CS} {d : DS} (hI : Inv c d) (hK : ∀ c' d' o', Inv c' d' → K c' d' o') : lk_9 N xs i c d o K := by
  obtain ⟨ge, la, lb, lc, ln, mx, my, md, mt, mv, mn, rs, rn, rw_, rk_⟩ := c
  obtain ⟨dn, da, db, dc, dk, dx, dy, dd, dr, dw, de, d1, d2, do0, dg, dra, drb, drc, dt⟩ := d
  have hS : St la lb lc ln mx my md mt mv mn rs rn rk_ dn da db dc := hI.1
  have hG : GR ge de d1 d2 := hI.2
  have hS0 := hS
  obtain ⟨n, A, B, C, K', X, Y, D, ⟨rfl, rfl, hD, hD', hR, hU⟩, ⟨rfl, hK36, hM, hP, hT, hV⟩, hRN⟩ := hS
  obtain ⟨u, v, h1, h2, h3, h4⟩ := o_room hD hD' hR hU hN hM hT hV hK36 hRN dk dx dy dd dr dt o (xs (i + 1)) (xs (i + 2))
  exact ⟨u, v, _, h1, h2, rfl, h3, h4, hK _ _ _ ⟨hS0, hG⟩⟩
theorem st_10 (hN : 70000 ≤ N) {c : CS} {d : DS} (hI : Inv c d) (hK : ∀ c' d' o', Inv c' d' → K c' d' o') : lk_10 N xs i c d o K := by
  obtain ⟨ge, la, lb, lc, ln, mx, my, md, mt, mv, mn, rs, rn, rw_, rk_⟩ := c
  obtain ⟨dn, da, db, dc, dk, dx, dy, dd, dr, dw, de, d1, d2, do0, dg, dra, drb, drc, dt⟩ := d
  have hS : St la lb lc ln mx my md mt mv mn rs rn rk_ dn da db dc := hI.1
  have hG : GR ge de d1 d2 := hI.2
  have hS0 := hS
  obtain ⟨n, A, B, C, K', X, Y, D, ⟨rfl, rfl, hD, hD', hR, hU⟩, ⟨rfl, hK36, hM, hP, hT, hV⟩, hRN⟩ := hS
  obtain ⟨u, v, h1, h2, h3, h4⟩ := o_roomOf hD' hR hU hN hM hK36 hRN dk dx dy dd dr dt o (xs (i + 1))
  exact ⟨u, v, _, h1, h2, rfl, h3, h4, hK _ _ _ ⟨hS0, hG⟩⟩
theorem st_11 (hN : 70000 ≤ N) {c : CS} {d : DS} (hI : Inv c d) (hK : ∀ c' d' o', Inv c' d' → K c' d' o') : lk_11 N xs i c d o K := by
  obtain ⟨ge, la, lb, lc, ln, mx, my, md, mt, mv, mn, rs, rn, rw_, rk_⟩ := c
  obtain ⟨dn, da, db, dc, dk, dx, dy, dd, dr, dw, de, d1, d2, do0, dg, dra, drb, drc, dt⟩ := d
  have hS : St la lb lc ln mx my md mt mv mn rs rn rk_ dn da db dc := hI.1
  have hG : GR ge de d1 d2 := hI.2
  have hS0 := hS
  obtain ⟨n, A, B, C, K', X, Y, D, ⟨rfl, rfl, hD, hD', hR, hU⟩, ⟨rfl, hK36, hM, hP, hT, hV⟩, hRN⟩ := hS
  obtain ⟨u, v, h1, h2, h3, h4⟩ := o_corner hD' hR hU hN hM hT hV hK36 hRN dk dx dy dd dr dt o (xs (i + 1)) (xs (i + 2))
  exact ⟨u, v, _, h1, h2, rfl, h3, h4, hK _ _ _ ⟨hS0, hG⟩⟩
theorem st_12 (hN : 70000 ≤ N) {c : CS} {d : DS} (hI : Inv c d) (hK : ∀ c' d' o', Inv c' d' → K c' d' o') : lk_12 N xs i c d o K := by
  obtain ⟨ge, la, lb, lc, ln, mx, my, md, mt, mv, mn, rs, rn, rw_, rk_⟩ := c
  obtain ⟨dn, da, db, dc, dk, dx, dy, dd, dr, dw, de, d1, d2, do0, dg, dra, drb, drc, dt⟩ := d
  have hS : St la lb lc ln mx my md mt mv mn rs rn rk_ dn da db dc := hI.1
  have hG : GR ge de d1 d2 := hI.2
  have hS0 := hS
  obtain ⟨n, A, B, C, K', X, Y, D, ⟨rfl, rfl, hD, hD', hR, hU⟩, ⟨rfl, hK36, hM, hP, hT, hV⟩, hRN⟩ := hS
  obtain ⟨u, v, h1, h2, h3, h4⟩ := o_galleries hD' hR hU hN hM hK36 hRN dk dx dy dd dr dw dt o (xs (i + 1)) (xs (i + 2))
  exact ⟨u, v, _, h1, h2, rfl, h3, h4, hK _ _ _ ⟨hS0, hG⟩⟩
theorem st_13 (hN : 70000 ≤ N) {c : CS} {d : DS} (hI : Inv c d) (hK : ∀ c' d' o', Inv c' d' → K c' d' o') : lk_13 N xs i c d o K := by
  obtain ⟨ge, la, lb, lc, ln, mx, my, md, mt, mv, mn, rs, rn, rw_, rk_⟩ := c
  obtain ⟨dn, da, db, dc, dk, dx, dy, dd, dr, dw, de, d1, d2, do0, dg, dra, drb, drc, dt⟩ := d
  have hS : St la lb lc ln mx my md mt mv mn rs rn rk_ dn da db dc := hI.1
  have hG : GR ge de d1 d2 := hI.2
  have hS0 := hS
  obtain ⟨n, A, B, C, K', X, Y, D, ⟨rfl, rfl, hD, hD', hR, hU⟩, ⟨rfl, hK36, hM, hP, hT, hV⟩, hRN⟩ := hS
  obtain ⟨u, v, h1, h2, h3, h4⟩ := o_gallery hD' hR hU hN hM hK36 hRN dk dx dy dd dr dw dt o (xs (i + 1)) (xs (i + 2)) (xs (i + 3))
  exact ⟨u, v, _, h1, h2, rfl, h3, h4, hK _ _ _ ⟨hS0, hG⟩⟩
theorem st_14 (hN : 70000 ≤ N) {c : CS} {d : DS} (hI : Inv c d) (hK : ∀ c' d' o', Inv c' d' → K c' d' o') : lk_14 N xs i c d o K := by
  obtain ⟨ge, la, lb, lc, ln, mx, my, md, mt, mv, mn, rs, rn, rw_, rk_⟩ := c
  obtain ⟨dn, da, db, dc, dk, dx, dy, dd, dr, dw, de, d1, d2, do0, dg, dra, drb, drc, dt⟩ := d
  have hS : St la lb lc ln mx my md mt mv mn rs rn rk_ dn da db dc := hI.1
  have hG : GR ge de d1 d2 := hI.2
  have hS0 := hS
  obtain ⟨n, A, B, C, K', X, Y, D, ⟨rfl, rfl, hD, hD', hR, hU⟩, ⟨rfl, hK36, hM, hP, hT, hV⟩, hRN⟩ := hS
  obtain ⟨u, v, h1, h2, h3, h4⟩ := o_project hD' hR hU hN hM hT hV hK36 hRN dk dx dy dd dr dt o (xs (i + 1)) (xs (i + 2))
  exact ⟨u, v, _, h1, h2, rfl, h3, h4, hK _ _ _ ⟨hS0, hG⟩⟩
theorem st_15 (hN : 70000 ≤ N) {c : CS} {d : DS} (hI : Inv c d) (hK : ∀ c' d' o', Inv c' d' → K c' d' o') : lk_15 N xs i c d o K := by
  obtain ⟨ge, la, lb, lc, ln, mx, my, md, mt, mv, mn, rs, rn, rw_, rk_⟩ := c
  obtain ⟨dn, da, db, dc, dk, dx, dy, dd, dr, dw, de, d1, d2, do0, dg, dra, drb, drc, dt⟩ := d
  have hS : St la lb lc ln mx my md mt mv mn rs rn rk_ dn da db dc := hI.1
  have hG : GR ge de d1 d2 := hI.2
  have hS0 := hS
  obtain ⟨n, A, B, C, K', X, Y, D, ⟨rfl, rfl, hD, hD', hR, hU⟩, ⟨rfl, hK36, hM, hP, hT, hV⟩, hRN⟩ := hS
  obtain ⟨u, v, h1, h2, h3, h4⟩ := o_best hD hD' hR hU hN hM hP hT hV hK36 hRN dk dx dy dd dr dt o (xs (i + 1)) (xs (i + 2)) (xs (i + 3))
  exact ⟨u, v, _, h1, h2, rfl, h3, h4, hK _ _ _ ⟨hS0, hG⟩⟩
theorem st_16 (hN : 70000 ≤ N) {c : CS} {d : DS} (hI : Inv c d) (hK : ∀ c' d' o', Inv c' d' → K c' d' o') : lk_16 N xs i c d o K := by
  obtain ⟨ge, la, lb, lc, ln, mx, my, md, mt, mv, mn, rs, rn, rw_, rk_⟩ := c
  obtain ⟨dn, da, db, dc, dk, dx, dy, dd, dr, dw, de, d1, d2, do0, dg, dra, drb, drc, dt⟩ := d
  have hS : St la lb lc ln mx my md mt mv mn rs rn rk_ dn da db dc := hI.1
  have hG : GR ge de d1 d2 := hI.2
  have hS0 := hS
  obtain ⟨n, A, B, C, K', X, Y, D, ⟨rfl, rfl, hD, hD', hR, hU⟩, ⟨rfl, hK36, hM, hP, hT, hV⟩, hRN⟩ := hS
  obtain ⟨u, v, h1, h2, h3, h4⟩ := o_reflected hD hD' hR hU hN dra drb drc dt o (xs (i + 1)) (xs (i + 2))
  exact ⟨u, v, _, h1, h2, rfl, h3, h4, hK _ _ _ ⟨hS0, hG⟩⟩
theorem st_17 (hN : 70000 ≤ N) {c : CS} {d : DS} (hI : Inv c d) (hK : ∀ c' d' o', Inv c' d' → K c' d' o') : lk_17 N xs i c d o K := by
  obtain ⟨ge, la, lb, lc, ln, mx, my, md, mt, mv, mn, rs, rn, rw_, rk_⟩ := c
  obtain ⟨dn, da, db, dc, dk, dx, dy, dd, dr, dw, de, d1, d2, do0, dg, dra, drb, drc, dt⟩ := d
  have hS : St la lb lc ln mx my md mt mv mn rs rn rk_ dn da db dc := hI.1
  have hG : GR ge de d1 d2 := hI.2
  have hS0 := hS
  obtain ⟨n, A, B, C, K', X, Y, D, ⟨rfl, rfl, hD, hD', hR, hU⟩, ⟨rfl, hK36, hM, hP, hT, hV⟩, hRN⟩ := hS
  obtain ⟨u, v, h1, h2, h3⟩ := o_kal hD hD' hR hU hN dra drb drc dt
  exact ⟨u, v, h1, h2, h3, hK _ _ _ ⟨hS0, hG⟩⟩
theorem st_18 (hN : 70000 ≤ N) {c : CS} {d : DS} (hI : Inv c d) (hK : ∀ c' d' o', Inv c' d' → K c' d' o') : lk_18 N xs i c d o K := by
  obtain ⟨ge, la, lb, lc, ln, mx, my, md, mt, mv, mn, rs, rn, rw_, rk_⟩ := c
  obtain ⟨dn, da, db, dc, dk, dx, dy, dd, dr, dw, de, d1, d2, do0, dg, dra, drb, drc, dt⟩ := d
  have hS : St la lb lc ln mx my md mt mv mn rs rn rk_ dn da db dc := hI.1
  have hG : GR ge de d1 d2 := hI.2
  have hS0 := hS
  obtain ⟨n, A, B, C, K', X, Y, D, ⟨rfl, rfl, hD, hD', hR, hU⟩, ⟨rfl, hK36, hM, hP, hT, hV⟩, hRN⟩ := hS
  obtain ⟨u, v, h1, h2, h3⟩ := o_pairs hD' hR hU hN hM hT hK36 dk dx dy dd dt
  exact ⟨u, v, h1, h2, h3, hK _ _ _ ⟨hS0, hG⟩⟩
theorem st_19 (hN : 70000 ≤ N) {c : CS} {d : DS} (hI : Inv c d) (hK : ∀ c' d' o', Inv c' d' → K c' d' o') : lk_19 N xs i c d o K := by
  obtain ⟨ge, la, lb, lc, ln, mx, my, md, mt, mv, mn, rs, rn, rw_, rk_⟩ := c
  obtain ⟨dn, da, db, dc, dk, dx, dy, dd, dr, dw, de, d1, d2, do0, dg, dra, drb, drc, dt⟩ := d
  have hS : St la lb lc ln mx my md mt mv mn rs rn rk_ dn da db dc := hI.1
  have hG : GR ge de d1 d2 := hI.2
  have hS0 := hS
  obtain ⟨n, A, B, C, K', X, Y, D, ⟨rfl, rfl, hD, hD', hR, hU⟩, ⟨rfl, hK36, hM, hP, hT, hV⟩, hRN⟩ := hS
  obtain ⟨u, v, h1, h2, h3, h4⟩ := o_pair hD' hR hU hN hM hT hK36 dk dx dy dd dt o (xs (i + 1))
  exact ⟨u, v, _, h1, h2, rfl, h3, h4, hK _ _ _ ⟨hS0, hG⟩⟩
theorem st_20 (hN : 70000 ≤ N) {c : CS} {d : DS} (hI : Inv c d) (hK : ∀ c' d' o', Inv c' d' → K c' d' o') : lk_20 N xs i c d o K := by
  obtain ⟨ge, la, lb, lc, ln, mx, my, md, mt, mv, mn, rs, rn, rw_, rk_⟩ := c
  obtain ⟨dn, da, db, dc, dk, dx, dy, dd, dr, dw, de, d1, d2, do0, dg, dra, drb, drc, dt⟩ := d
  have hS : St la lb lc ln mx my md mt mv mn rs rn rk_ dn da db dc := hI.1
  have hG : GR ge de d1 d2 := hI.2
  obtain ⟨u, v, h1, h2, h3, h4, h5⟩ := o_edge hG hN dt o (xs (i + 1)) (xs (i + 2))
  exact ⟨u, v, _, h1, h2, rfl, h3, h4, hK _ _ _ ⟨hS, h5⟩⟩
theorem st_21 (hN : 70000 ≤ N) {c : CS} {d : DS} (hI : Inv c d) (hK : ∀ c' d' o', Inv c' d' → K c' d' o') : lk_21 N xs i c d o K := by
  obtain ⟨ge, la, lb, lc, ln, mx, my, md, mt, mv, mn, rs, rn, rw_, rk_⟩ := c
  obtain ⟨dn, da, db, dc, dk, dx, dy, dd, dr, dw, de, d1, d2, do0, dg, dra, drb, drc, dt⟩ := d
  have hS : St la lb lc ln mx my md mt mv mn rs rn rk_ dn da db dc := hI.1
  have hG : GR ge de d1 d2 := hI.2
  obtain ⟨u, v, h1, h2, h3, h4⟩ := o_colourings hG hN do0 dt o (xs (i + 1))
  exact ⟨u, v, _, h1, h2, rfl, h3, h4, hK _ _ _ ⟨hS, hG⟩⟩
theorem st_22 (hN : 70000 ≤ N) {c : CS} {d : DS} (hI : Inv c d) (hK : ∀ c' d' o', Inv c' d' → K c' d' o') : lk_22 N xs i c d o K := by
  obtain ⟨ge, la, lb, lc, ln, mx, my, md, mt, mv, mn, rs, rn, rw_, rk_⟩ := c
  obtain ⟨dn, da, db, dc, dk, dx, dy, dd, dr, dw, de, d1, d2, do0, dg, dra, drb, drc, dt⟩ := d
  have hS : St la lb lc ln mx my md mt mv mn rs rn rk_ dn da db dc := hI.1
  have hG : GR ge de d1 d2 := hI.2
  obtain ⟨u, v, h1, h2, h3, h4⟩ := o_colAnew hG hN dg dt o (xs (i + 1))
  exact ⟨u, v, _, h1, h2, rfl, h3, h4, hK _ _ _ ⟨hS, hG⟩⟩
theorem st_23 (hN : 70000 ≤ N) {c : CS} {d : DS} (hI : Inv c d) (hK : ∀ c' d' o', Inv c' d' → K c' d' o') : lk_23 N xs i c d o K := by
  obtain ⟨ge, la, lb, lc, ln, mx, my, md, mt, mv, mn, rs, rn, rw_, rk_⟩ := c
  obtain ⟨dn, da, db, dc, dk, dx, dy, dd, dr, dw, de, d1, d2, do0, dg, dra, drb, drc, dt⟩ := d
  have hS : St la lb lc ln mx my md mt mv mn rs rn rk_ dn da db dc := hI.1
  have hG : GR ge de d1 d2 := hI.2
  obtain ⟨u, v, h1, h2, h3⟩ := o_dir hG hN dt
  exact ⟨u, v, h1, h2, h3, hK _ _ _ ⟨hS, hG⟩⟩
theorem st_24 (hN : 70000 ≤ N) {c : CS} {d : DS} (hI : Inv c d) (hK : ∀ c' d' o', Inv c' d' → K c' d' o') : lk_24 N xs i c d o K := by
  obtain ⟨ge, la, lb, lc, ln, mx, my, md, mt, mv, mn, rs, rn, rw_, rk_⟩ := c
  obtain ⟨dn, da, db, dc, dk, dx, dy, dd, dr, dw, de, d1, d2, do0, dg, dra, drb, drc, dt⟩ := d
  have hS : St la lb lc ln mx my md mt mv mn rs rn rk_ dn da db dc := hI.1
  have hG : GR ge de d1 d2 := hI.2
  obtain ⟨u, v, h1, h2, h3⟩ := o_dirAnew hG hN dg dt
  exact ⟨u, v, h1, h2, h3, hK _ _ _ ⟨hS, hG⟩⟩
theorem st_all (hN : 70000 ≤ N) {c : CS} {d : DS} (hI : Inv c d) (hK : ∀ c' d' o', Inv c' d' → K c' d' o') : lawStep N xs i c d o K := by
  unfold lawStep
  by_cases z0 : xs i &&& 31 = 0
  · rw [if_pos z0]; exact st_0 hN hI hK
  rw [if_neg z0]
  by_cases z1 : xs i &&& 31 = 1
  · rw [if_pos z1]; exact st_1 hN hI hK
  rw [if_neg z1]
  by_cases z2 : xs i &&& 31 = 2
  · rw [if_pos z2]; exact st_2 hN hI hK
  rw [if_neg z2]
  by_cases z3 : xs i &&& 31 = 3
  · rw [if_pos z3]; exact st_3 hN hI hK
  rw [if_neg z3]
  by_cases z4 : xs i &&& 31 = 4
  · rw [if_pos z4]; exact st_4 hN hI hK
  rw [if_neg z4]
  by_cases z5 : xs i &&& 31 = 5
  · rw [if_pos z5]; exact st_5 hN hI hK
  rw [if_neg z5]
  by_cases z6 : xs i &&& 31 = 6
  · rw [if_pos z6]; exact st_6 hN hI hK
  rw [if_neg z6]
  by_cases z7 : xs i &&& 31 = 7
  · rw [if_pos z7]; exact st_7 hN hI hK
  rw [if_neg z7]
  by_cases z8 : xs i &&& 31 = 8
  · rw [if_pos z8]; exact st_8 hN hI hK
  rw [if_neg z8]
  by_cases z9 : xs i &&& 31 = 9
  · rw [if_pos z9]; exact st_9 hN hI hK
  rw [if_neg z9]
  by_cases z10 : xs i &&& 31 = 10
  · rw [if_pos z10]; exact st_10 hN hI hK
  rw [if_neg z10]
  by_cases z11 : xs i &&& 31 = 11
  · rw [if_pos z11]; exact st_11 hN hI hK
  rw [if_neg z11]
  by_cases z12 : xs i &&& 31 = 12
  · rw [if_pos z12]; exact st_12 hN hI hK
  rw [if_neg z12]
  by_cases z13 : xs i &&& 31 = 13
  · rw [if_pos z13]; exact st_13 hN hI hK
  rw [if_neg z13]
  by_cases z14 : xs i &&& 31 = 14
  · rw [if_pos z14]; exact st_14 hN hI hK
  rw [if_neg z14]
  by_cases z15 : xs i &&& 31 = 15
  · rw [if_pos z15]; exact st_15 hN hI hK
  rw [if_neg z15]
  by_cases z16 : xs i &&& 31 = 16
  · rw [if_pos z16]; exact st_16 hN hI hK
  rw [if_neg z16]
  by_cases z17 : xs i &&& 31 = 17
  · rw [if_pos z17]; exact st_17 hN hI hK
  rw [if_neg z17]
  by_cases z18 : xs i &&& 31 = 18
  · rw [if_pos z18]; exact st_18 hN hI hK
  rw [if_neg z18]
  by_cases z19 : xs i &&& 31 = 19
  · rw [if_pos z19]; exact st_19 hN hI hK
  rw [if_neg z19]
  by_cases z20 : xs i &&& 31 = 20
  · rw [if_pos z20]; exact st_20 hN hI hK
  rw [if_neg z20]
  by_cases z21 : xs i &&& 31 = 21
  · rw [if_pos z21]; exact st_21 hN hI hK
  rw [if_neg z21]
  by_cases z22 : xs i &&& 31 = 22
  · rw [if_pos z22]; exact st_22 hN hI hK
  rw [if_neg z22]
  by_cases z23 : xs i &&& 31 = 23
  · rw [if_pos z23]; exact st_23 hN hI hK
  rw [if_neg z23]
  by_cases z24 : xs i &&& 31 = 24
  · rw [if_pos z24]; exact st_24 hN hI hK
  rw [if_neg z24]
  exact hK _ _ _ hI
theorem ok_all {L : Nat} (hL : L ≤ 2048) : ∀ (n i : Nat) (c : CS) (d : DS) (o : Nat → Int64), Inv c d → i ≤ L → L < i + n → lawOK 70000 L xs n i c d o
  | 0, i, c, d, o, _, h1, h2 => absurd h2 (by omega)
  | n + 1, i, c, d, o, hI, h1, h2 => by
    show if i + 4 ≤ L then lawStep 70000 xs i c d o (fun c' d' o' => lawOK 70000 L xs n (i + 4) c' d' o') else True
    by_cases h : i + 4 ≤ L
    · rw [if_pos h]
      exact st_all (Nat.le_refl _) hI (fun c' d' o' hI' => ok_all hL n (i + 4) c' d' o' hI' h (by omega))
    · rw [if_neg h]
      trivial
theorem rInit_at : ∀ (k s : Nat), s ≤ k → rInit (fun _ => 0) k s = if s = 0 then 0 else -1
  | 0, s, h => by rw [if_pos (by omega)]; rfl
  | k + 1, s, h => by
    show upd (rInit (fun _ => 0) k) (k + 1) (-1) s = _
    by_cases c : s = k + 1
    · rw [c, up_s, if_neg (by omega)]
    · rw [up_n c, rInit_at k s (by omega)]
theorem rB0 (s : Nat) : rB 0 (fun _ => 0) (fun _ => 0) (fun _ => 0) s = decide (s = 0) := by
  by_cases c : s = 0
  · rw [decide_eq_true c]; exact bP_t (real_0.mpr c)
  · rw [decide_eq_false c]; exact bP_f (fun z => c (real_0.mp z))
theorem rk0 : ∀ s, rk (fun s => decide (s = 0)) (s + 1) = 1
  | 0 => rfl
  | s + 1 => by rw [rk_f (decide_eq_false (by omega)), rk0 s]
theorem Inv_0 : Inv cInit dInit := by
  have hf : rB 0 (fun _ => 0) (fun _ => 0) (fun _ => 0) = fun s => decide (s = 0) := funext rB0
  refine ⟨⟨0, fun _ => 0, fun _ => 0, fun _ => 0, 0, fun _ => 0, fun _ => 0, fun _ => 0, ⟨rfl, rfl, fun j h => absurd h (Nat.not_lt_zero j), fun j h => absurd h (Nat.not_lt_zero j), ⟨by omega, fun j h => absurd h (Nat.not_lt_zero j)⟩, fun a b h => absurd h (Nat.not_lt_zero a)⟩, ⟨rfl, by omega, ⟨fun j h => absurd h (Nat.not_lt_zero j), fun j k _ h => absurd h (Nat.not_lt_zero k), fun a b _ h => absurd h (Nat.not_lt_zero a)⟩, fun j h => absurd h (Nat.not_lt_zero j), fun j h => absurd h (Nat.not_lt_zero j), fun j h => absurd h (Nat.not_lt_zero j)⟩, ?_, ?_, ?_⟩, ?_⟩
  · rw [hf, rk0 511]; rfl
  · intro s hs
    rw [hf]
    refine (rInit_at 511 s (by omega)).trans ?_
    by_cases c : s = 0
    · rw [if_pos c, c, if_pos (decide_eq_true rfl)]; rfl
    · rw [if_neg c, if_neg (by rw [decide_eq_true_eq]; exact c)]
  · intro s hs hb
    rw [hf] at hb
    have c : s = 0 := of_decide_eq_true hb
    rw [c]
    rfl
  · refine ⟨0, fun _ => 0, fun _ => 0, 0, rfl, rfl, ⟨by omega, fun e h => absurd h (Nat.not_lt_zero e)⟩, Rep_of (by omega) (fun e h => absurd h (Nat.not_lt_zero e)) (fun a b _ _ => ?_), fun e f h => absurd h (Nat.not_lt_zero e)⟩
    unfold ad
    rw [Nat.zero_testBit]
    constructor
    · intro z; cases z
    · rintro ⟨e, h, -⟩; exact absurd h (Nat.not_lt_zero e)
end FI
theorem law_good : ∀ (L : Nat) (xs : Nat → Int32), L ≤ 2048 → ∃ N n, lawOK N L xs n 0 cInit dInit (fun _ => 0) := fun L xs hL => ⟨70000, L + 1, ok_all hL (L + 1) 0 cInit dInit (fun _ => 0) Inv_0 (Nat.zero_le L) (by omega)⟩
