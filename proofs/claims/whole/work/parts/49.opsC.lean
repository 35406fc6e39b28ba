/-! ===== line, takeAway, reflected, isKaleidoscope ===== -/
section OC
def StL (n : Nat) (A B C : Nat → Int) (la lb lc : Nat → Int32) (ln : Int32) (dn : Int32) (da db dc : Nat → Int32) : Prop := ln = nI n ∧ dn = nI n ∧ LD n A B C la lb lc ∧ LD n A B C da db dc ∧ LR n A B C ∧ LU n A B C
def StM (n : Nat) (A B C : Nat → Int) (K : Nat) (X Y D : Nat → Int) (mx my md mt mv : Nat → Int32) (mn : Int32) : Prop := mn = nI K ∧ K ≤ 36 ∧ MSp n A B C K X Y D ∧ Rp K X Y D mx my md ∧ Tp K (fun j => thrS n A B C (X j) (Y j) (D j)) mt ∧ Tp K (fun j => abvS n A B C (X j) (Y j) (D j)) mv
def St (la lb lc : Nat → Int32) (ln : Int32) (mx my md mt mv : Nat → Int32) (mn : Int32) (rs rn : Nat → Int32) (rk_ : Int32) (dn : Int32) (da db dc : Nat → Int32) : Prop := ∃ n A B C K X Y D, StL n A B C la lb lc ln dn da db dc ∧ StM n A B C K X Y D mx my md mt mv mn ∧ RN n A B C rs rn rk_
variable {n : Nat} {A B C : Nat → Int} {la lb lc da db dc : Nat → Int32} {N : Nat} {K : Nat} {X Y D : Nat → Int} {mx my md mt mv rs rn : Nat → Int32}
theorem c_look (hD : LD n A B C la lb lc) (hR : LR n A B C) (hU : LU n A B C) (hN : 70000 ≤ N) (x0 y0 d0 t0 v0 s0 n0 : Nat → Int32) (k0 q0 : Int32) :
    ∃ K X Y D u, fX4_lookAnew N la lb lc (nI n) x0 y0 d0 t0 v0 k0 s0 n0 q0 = some u ∧ StM n A B C K X Y D u.1 u.2.1 u.2.2.1 u.2.2.2.1 u.2.2.2.2.1 u.2.2.2.2.2.1 ∧ RN n A B C u.2.2.2.2.2.2.1 u.2.2.2.2.2.2.2.1 u.2.2.2.2.2.2.2.2 := by
  obtain ⟨K, X, Y, D, mx, my, md, mt, mv, h1, h2, h3, h4, h5, e1⟩ := c_find hD hR hU hN x0 y0 d0 t0 v0 k0
  obtain ⟨rs, rn, rk_, h6, e2⟩ := c_rooms hD hR hU hN h2 h3 h4 h1 s0 n0 q0
  rw [fX4_lookAnew.eq_1, e1, bd_s]
  dsimp only
  rw [e2, bd_s]
  exact ⟨K, X, Y, D, _, rfl, ⟨rfl, h1, h2, h3, h4, h5⟩, h6⟩
theorem le9 {n : Nat} (h : n ≤ 1000) : (9 : Int32) ≤ nI n ↔ 9 ≤ n := nI_leI (a := 9) (by omega) (by omega)
theorem lt9 {n : Nat} (h : n ≤ 1000) : nI n < (9 : Int32) ↔ n < 9 := nI_ltI (b := 9) (by omega) (by omega)
/-! the line with a telling -/
theorem cancel_l {a u v : Int} (ha : a ≠ 0) (h : a * u = a * v) : u = v := cmul ha h
theorem same_uniq (hU : LU n A B C) {a b c : Int} (hab : ¬ (a = 0 ∧ b = 0)) {i j : Nat} (hi : i < n) (hj : j < n) (h1 : same (A i) (B i) (C i) a b c) (h2 : same (A j) (B j) (C j) a b c) : i = j := by
  obtain ⟨p1, p2, p3⟩ := h1
  obtain ⟨q1, q2, q3⟩ := h2
  apply hU i j hi hj
  by_cases ha : a = 0
  · have hb : b ≠ 0 := fun z => hab ⟨ha, z⟩
    refine ⟨cancel_l hb ?_, cancel_l hb ?_, cancel_l hb ?_⟩
    · calc b * (A i * B j) = (A i * b) * B j := by grind
        _ = (B i * a) * B j := by rw [p1]
        _ = B i * (B j * a) := by grind
        _ = B i * (A j * b) := by rw [q1]
        _ = b * (B i * A j) := by grind
    · calc b * (A i * C j) = A i * (C j * b) := by grind
        _ = A i * (B j * c) := by rw [q3]
        _ = A i * B j * c := by grind
        _ = b * (C i * A j) := by subst ha; grind
    · calc b * (B i * C j) = B i * (C j * b) := by grind
        _ = B i * (B j * c) := by rw [q3]
        _ = (B i * c) * B j := by grind
        _ = (C i * b) * B j := by rw [p3]
        _ = b * (C i * B j) := by grind
  · refine ⟨cancel_l ha ?_, cancel_l ha ?_, cancel_l ha ?_⟩
    · calc a * (A i * B j) = A i * (B j * a) := by grind
        _ = A i * (A j * b) := by rw [q1]
        _ = (A i * b) * A j := by grind
        _ = (B i * a) * A j := by rw [p1]
        _ = a * (B i * A j) := by grind
    · calc a * (A i * C j) = A i * (C j * a) := by grind
        _ = A i * (A j * c) := by rw [q2]
        _ = (A i * c) * A j := by grind
        _ = (C i * a) * A j := by rw [p2]
        _ = a * (C i * A j) := by grind
    · calc a * (B i * C j) = B i * (C j * a) := by grind
        _ = B i * (A j * c) := by rw [q2]
        _ = (B i * c) * A j := by grind
        _ = (C i * b) * A j := by rw [p3]
        _ = C i * (A j * b) := by grind
        _ = C i * (B j * a) := by rw [q1]
        _ = a * (C i * B j) := by grind
theorem r_isLine (hD : LD n A B C la lb lc) (hR : LR n A B C) (N : Nat) {j : Nat} (hj : j < n) {a b c : Int} (ha : a.natAbs ≤ 100000) (hb : b.natAbs ≤ 100000) (hc : c.natAbs ≤ 100000) : fX5_isLine N la lb lc (nI j) (iI a) (iI b) (iI c) = some (b01 (bP (same (A j) (B j) (C j) a b c))) := by
  obtain ⟨h1, h2, h3⟩ := hD j hj
  obtain ⟨hn, hr⟩ := hR
  obtain ⟨r1, r2, r3, -⟩ := hr j hj
  have g1 := iI_eq (sm_of (mb r1 hb)) (sm_of (mb r2 ha))
  have g2 := iI_eq (sm_of (mb r1 hc)) (sm_of (mb r3 ha))
  have g3 := iI_eq (sm_of (mb r2 hc)) (sm_of (mb r3 hb))
  rw [fX5_isLine.eq_1, rd_9 (by omega), rd_9 (by omega), rd_9 (by omega), rd_9 (by omega), rd_9 (by omega), rd_9 (by omega), h1, h2, h3, iI_mul, iI_mul, iI_mul, iI_mul, iI_mul, iI_mul, zo_0, zo_1]
  by_cases e1 : A j * b = B j * a
  · by_cases e2 : A j * c = C j * a
    · by_cases e3 : B j * c = C j * b
      · rw [if_pos (g1.mpr e1), if_pos (g2.mpr e2), if_pos (g3.mpr e3), bP_t ⟨e1, e2, e3⟩]; rfl
      · rw [if_pos (g1.mpr e1), if_pos (g2.mpr e2), if_neg (fun z => e3 (g3.mp z)), bP_f (fun z => e3 z.2.2)]; rfl
    · rw [if_pos (g1.mpr e1), if_neg (fun z => e2 (g2.mp z)), bP_f (fun z => e2 z.2.1)]; rfl
  · rw [if_neg (fun z => e1 (g1.mp z)), bP_f (fun z => e1 z.1)]; rfl
theorem both_of (hD : LD n A B C la lb lc) (hD' : LD n A B C da db dc) (hR : LR n A B C) (hU : LU n A B C) (hN : 70000 ≤ N) {a b c : Int} (ha : a.natAbs ≤ 100000) (hb : b.natAbs ≤ 100000) (hc : c.natAbs ≤ 100000) (hab : ¬ (a = 0 ∧ b = 0)) :
    ∃ v, fX1_numberOf N la lb lc (nI n) (iI a) (iI b) (iI c) = some v ∧ fX5_lineOf N (nI n) da db dc (iI a) (iI b) (iI c) = some v ∧ ((v = -1 ∧ ∀ i, i < n → ¬ same (A i) (B i) (C i) a b c) ∨ ∃ k, k < n ∧ v = nI k) := by
  have hn := hR.1
  have hl : ∀ v : Int32, (∀ i, i < n → same (A i) (B i) (C i) a b c → v = nI i) → ((∀ i, i < n → ¬ same (A i) (B i) (C i) a b c) → v = -1) → fX5_lineOf N (nI n) da db dc (iI a) (iI b) (iI c) = some v := by
    intro v h1 h2
    rw [fX5_lineOf.eq_1]
    obtain ⟨s, hp, e⟩ := loop_ex (fun f j (s : Int32) => fX5_lineOf_b6 N (nI n) da db dc (iI a) (iI b) (iI c) f s (nI j)) (fun s => some s) n
      (fun j s => (∃ i, i < j ∧ same (A i) (B i) (C i) a b c ∧ s = nI i) ∨ (s = -1 ∧ ∀ i, i < j → ¬ same (A i) (B i) (C i) a b c))
      (fun f s hp => by rw [fX5_lineOf_b6.eq_2, if_pos (nI_le' (by omega) (Nat.le_refl n))])
      (fun f j s hj hp => by
        rw [fX5_lineOf_b6.eq_2, if_neg (nI_nle' (by omega) hj), r_isLine hD' hR N hj ha hb hc, bd_s, nI_1]
        by_cases c1 : same (A j) (B j) (C j) a b c
        · rw [bP_t c1, if_neg b01t]
          exact ⟨nI j, Or.inl ⟨j, by omega, c1, rfl⟩, rfl⟩
        · rw [bP_f c1, if_pos b01f]
          refine ⟨s, ?_, rfl⟩
          rcases hp with ⟨i, g1, g2, g3⟩ | ⟨g1, g2⟩
          · exact Or.inl ⟨i, by omega, g2, g3⟩
          · refine Or.inr ⟨g1, fun i hi => ?_⟩
            by_cases e : i = j
            · subst e; exact c1
            · exact g2 i (by omega))
      n N 0 (-1) (by omega) (by omega) (Or.inr ⟨rfl, fun i hi => absurd hi (Nat.not_lt_zero i)⟩)
    have hs : s = v := by
      rcases hp with ⟨i, g1, g2, g3⟩ | ⟨g1, g2⟩
      · rw [g3, h1 i g1 g2]
      · rw [g1, h2 g2]
    rw [hs] at e
    exact e
  by_cases hex : ∃ i, i < n ∧ same (A i) (B i) (C i) a b c
  · obtain ⟨k, hk, hsk, hmin⟩ := min_ex n hex
    refine ⟨nI k, m_numberOf_some hD hR hN ha hb hc hk hsk hmin, hl _ (fun i hi hsi => by rw [same_uniq hU hab hk hi hsk hsi]) (fun hno => absurd hsk (hno k hk)), Or.inr ⟨k, hk, rfl⟩⟩
  · have hno : ∀ i, i < n → ¬ same (A i) (B i) (C i) a b c := fun i hi z => hex ⟨i, hi, z⟩
    exact ⟨-1, m_numberOf_none hD hR hN ha hb hc hno, hl _ (fun i hi hsi => absurd hsi (hno i hi)) (fun _ => rfl), Or.inl ⟨rfl, hno⟩⟩
/-! a new line -/
theorem LD_new (hD : LD n A B C la lb lc) (a b c : Int) : LD (n + 1) (fun j => if j = n then a else A j) (fun j => if j = n then b else B j) (fun j => if j = n then c else C j) (upd la n (iI a)) (upd lb n (iI b)) (upd lc n (iI c)) := by
  intro j hj
  dsimp only
  by_cases e : j = n
  · subst e
    rw [up_s, up_s, up_s, if_pos rfl, if_pos rfl, if_pos rfl]
    exact ⟨rfl, rfl, rfl⟩
  · rw [up_n e, up_n e, up_n e, if_neg e, if_neg e, if_neg e]
    exact hD j (by omega)
theorem LR_new (hR : LR n A B C) (hn : n < 9) {a b c : Int} (ha : a.natAbs ≤ 9) (hb : b.natAbs ≤ 9) (hc : c.natAbs ≤ 9) (hab : ¬ (a = 0 ∧ b = 0)) : LR (n + 1) (fun j => if j = n then a else A j) (fun j => if j = n then b else B j) (fun j => if j = n then c else C j) := by
  refine ⟨by omega, fun j hj => ?_⟩
  dsimp only
  by_cases e : j = n
  · rw [if_pos e, if_pos e, if_pos e]; exact ⟨ha, hb, hc, hab⟩
  · rw [if_neg e, if_neg e, if_neg e]; exact hR.2 j (by omega)
theorem same_sym {a b c a' b' c' : Int} (h : same a b c a' b' c') : same a' b' c' a b c := by
  obtain ⟨h1, h2, h3⟩ := h
  refine ⟨?_, ?_, ?_⟩
  · rw [Int.mul_comm, ← h1, Int.mul_comm]
  · rw [Int.mul_comm, ← h2, Int.mul_comm]
  · rw [Int.mul_comm, ← h3, Int.mul_comm]
theorem LU_new (hU : LU n A B C) {a b c : Int} (hno : ∀ i, i < n → ¬ same (A i) (B i) (C i) a b c) : LU (n + 1) (fun j => if j = n then a else A j) (fun j => if j = n then b else B j) (fun j => if j = n then c else C j) := by
  intro i j hi hj
  dsimp only
  by_cases e : i = n
  · by_cases e2 : j = n
    · intro _; omega
    · rw [if_pos e, if_pos e, if_pos e, if_neg e2, if_neg e2, if_neg e2]
      intro h
      exact absurd (same_sym h) (hno j (by omega))
  · by_cases e2 : j = n
    · rw [if_neg e, if_neg e, if_neg e, if_pos e2, if_pos e2, if_pos e2]
      intro h
      exact absurd h (hno i (by omega))
    · rw [if_neg e, if_neg e, if_neg e, if_neg e2, if_neg e2, if_neg e2]
      exact hU i j (by omega) (by omega)
theorem o_line {ln mn rk_ dn : Int32} (h : St la lb lc ln mx my md mt mv mn rs rn rk_ dn da db dc) (hN : 70000 ≤ N) (t0 : Int32) (o : Nat → Int64) (x1 x2 x3 : Int32) :
    ∃ u v, fL_line N la lb lc ln mx my md mt mv mn rs rn rk_ o x1 x2 x3 = some u ∧ fX5_line N dn da db dc t0 x1 x2 x3 = some v ∧ v.2.2.2.2.2 = u.1 ∧ (u.1 = 0 → u.2.2.2.2.2.2.2.2.2.2.2.2.2.2 0 = Int32.toInt64 v.1) ∧ St u.2.1 u.2.2.1 u.2.2.2.1 u.2.2.2.2.1 u.2.2.2.2.2.1 u.2.2.2.2.2.2.1 u.2.2.2.2.2.2.2.1 u.2.2.2.2.2.2.2.2.1 u.2.2.2.2.2.2.2.2.2.1 u.2.2.2.2.2.2.2.2.2.2.1 u.2.2.2.2.2.2.2.2.2.2.2.1 u.2.2.2.2.2.2.2.2.2.2.2.2.1 u.2.2.2.2.2.2.2.2.2.2.2.2.2.1 v.2.1 v.2.2.1 v.2.2.2.1 v.2.2.2.2.1 := by
  have h0 := h
  obtain ⟨n, A, B, C, K, X, Y, D, ⟨rfl, rfl, hD, hD', hR, hU⟩, -, -⟩ := h
  have hn := hR.1
  have iae : fX4_line N la lb lc (nI n) mx my md mt mv mn rs rn rk_ x1 x2 x3 = some (.inl xIAE) → fX5_line N (nI n) da db dc t0 x1 x2 x3 = fX5_line_b47 N x1 x2 x3 (nI n) da db dc t0 0 → ∃ u v, fL_line N la lb lc (nI n) mx my md mt mv mn rs rn rk_ o x1 x2 x3 = some u ∧ fX5_line N (nI n) da db dc t0 x1 x2 x3 = some v ∧ v.2.2.2.2.2 = u.1 ∧ (u.1 = 0 → u.2.2.2.2.2.2.2.2.2.2.2.2.2.2 0 = Int32.toInt64 v.1) ∧ St u.2.1 u.2.2.1 u.2.2.2.1 u.2.2.2.2.1 u.2.2.2.2.2.1 u.2.2.2.2.2.2.1 u.2.2.2.2.2.2.2.1 u.2.2.2.2.2.2.2.2.1 u.2.2.2.2.2.2.2.2.2.1 u.2.2.2.2.2.2.2.2.2.2.1 u.2.2.2.2.2.2.2.2.2.2.2.1 u.2.2.2.2.2.2.2.2.2.2.2.2.1 u.2.2.2.2.2.2.2.2.2.2.2.2.2.1 v.2.1 v.2.2.1 v.2.2.2.1 v.2.2.2.2.1 := by
    intro e1 e2
    rw [fL_line.eq_1, e1, bdc_l, if_pos rfl, e2, fX5_line_b47.eq_1, f_f', bd_s, if_neg b01t]
    exact ⟨_, _, rfl, rfl, rfl, fun z => absurd z one_ne0, h0⟩
  rcases near_or x1 with ⟨a, ha, rfl⟩ | f1
  · rcases near_or x2 with ⟨b, hb, rfl⟩ | f2
    · rcases near_or x3 with ⟨c, hc, rfl⟩ | f3
      · by_cases hab : a = 0 ∧ b = 0
        · obtain ⟨rfl, rfl⟩ := hab
          refine iae ?_ ?_
          · rw [fX4_line.eq_1, c_near N ha, bd_s, if_pos rfl, bd_s, if_pos rfl, c_near N hc, bd_s, if_pos rfl, if_pos (show iI 0 = 0 from rfl), if_pos (show iI 0 = 0 from rfl)]
          · rw [fX5_line.eq_1, r_near N ha, bd_s, if_neg b01t, bd_s, if_neg b01t, r_near N hc, bd_s, if_neg b01t, if_pos (show iI 0 = 0 from rfl), if_pos (show iI 0 = 0 from rfl)]
        · obtain ⟨v, v1, v2, v3⟩ := both_of hD hD' hR hU hN (a := a) (b := b) (c := c) (by omega) (by omega) (by omega) hab
          have e1 : fX4_line N la lb lc (nI n) mx my md mt mv mn rs rn rk_ (iI a) (iI b) (iI c) = fX4_line_b39 N (iI a) (iI b) (iI c) la lb lc (nI n) mx my md mt mv mn rs rn rk_ := by
            rw [fX4_line.eq_1, c_near N ha, bd_s, if_pos rfl, c_near N hb, bd_s, if_pos rfl, c_near N hc, bd_s, if_pos rfl]
            by_cases c1 : a = 0
            · rw [if_pos (by rw [iI_eq0 (sm_of ha)]; exact c1), if_neg (by rw [iI_eq0 (sm_of hb)]; exact fun z => hab ⟨c1, z⟩)]
            · rw [if_neg (by rw [iI_eq0 (sm_of ha)]; exact c1)]
          have e2 : fX5_line N (nI n) da db dc t0 (iI a) (iI b) (iI c) = fX5_line_b47 N (iI a) (iI b) (iI c) (nI n) da db dc t0 1 := by
            rw [fX5_line.eq_1, r_near N ha, bd_s, if_neg b01t, r_near N hb, bd_s, if_neg b01t, r_near N hc, bd_s, if_neg b01t]
            by_cases c1 : a = 0
            · rw [if_pos (by rw [iI_eq0 (sm_of ha)]; exact c1), if_neg (by rw [iI_eq0 (sm_of hb)]; exact fun z => hab ⟨c1, z⟩)]
            · rw [if_neg (by rw [iI_eq0 (sm_of ha)]; exact c1)]
          have hfull : fX1_isFull N (nI n) = some (b01 (decide (9 ≤ n))) := by
            rw [fX1_isFull.eq_1]
            by_cases c9 : n < 9
            · rw [if_pos ((lt9 (by omega)).mpr c9), zo_0, decide_eq_false (by omega)]; rfl
            · rw [if_neg (fun z => c9 ((lt9 (by omega)).mp z)), zo_1, decide_eq_true (by omega)]; rfl
          rw [e2, fX5_line_b47.eq_1, f_t', bd_s, if_pos b01f, v2, bd_s, fL_line.eq_1, e1, fX4_line_b39.eq_1, hfull, bd_s]
          dsimp only
          by_cases c9 : n < 9
          · rw [decide_eq_false (show ¬ 9 ≤ n by omega), if_pos b01f, v1, bd_s]
            rcases v3 with ⟨w1, w2⟩ | ⟨k, hk, w1⟩
            · rw [if_pos w1, if_pos w1, if_neg (show ¬ (9 : Int32) ≤ nI n by rw [le9 (by omega)]; omega), fX5_line_b82.eq_1, f_t', bd_s, if_pos b01f, ck_9 c9, ck_9 c9, ck_9 c9, nI_clamp (by omega), fX1_append.eq_1, hfull, bd_s, decide_eq_false (show ¬ 9 ≤ n by omega), if_pos b01f, ck_9 c9, ck_9 c9, ck_9 c9, nI_clamp (by omega), bd_s, nI_1]
              dsimp only
              have hD2 := LD_new hD a b c
              have hD2' := LD_new hD' a b c
              have hR2 := LR_new hR c9 ha hb hc hab
              have hU2 := LU_new hU w2
              obtain ⟨K2, X2, Y2, D2, u2, q1, q2, q3⟩ := c_look hD2 hR2 hU2 hN mx my md mt mv rs rn mn rk_
              rw [q1, bd_s, fX1_count.eq_1, bd_s, bdc_r]
              exact ⟨_, _, rfl, rfl, rfl, fun _ => updL0 o _, ⟨n + 1, _, _, _, K2, X2, Y2, D2, ⟨rfl, rfl, hD2, hD2', hR2, hU2⟩, q2, q3⟩⟩
            · have hv : ¬ v = -1 := by rw [w1]; exact nI_ne_m1 (by omega)
              rw [if_neg hv, if_neg hv, bdc_l, if_neg xne3, if_pos rfl, fX5_line_b82.eq_1, f_f', bd_s, if_neg b01t]
              exact ⟨_, _, rfl, rfl, rfl, fun z => absurd z two_ne0, h0⟩
          · rw [decide_eq_true (show 9 ≤ n by omega), if_neg b01t, bdc_l, if_neg xne3, if_pos rfl]
            have e3 : (if v = -1 then if 9 ≤ nI n then fX5_line_b82 N (iI a) (iI b) (iI c) (nI n) da db dc 0 0 else fX5_line_b82 N (iI a) (iI b) (iI c) (nI n) da db dc 0 1 else fX5_line_b82 N (iI a) (iI b) (iI c) (nI n) da db dc 0 0) = fX5_line_b82 N (iI a) (iI b) (iI c) (nI n) da db dc 0 0 := by
              by_cases c1 : v = -1
              · rw [if_pos c1, if_pos (show (9 : Int32) ≤ nI n by rw [le9 (by omega)]; omega)]
              · rw [if_neg c1]
            rw [e3, fX5_line_b82.eq_1, f_f', bd_s, if_neg b01t]
            exact ⟨_, _, rfl, rfl, rfl, fun z => absurd z two_ne0, h0⟩
      · refine iae ?_ ?_
        · rw [fX4_line.eq_1, c_near N ha, bd_s, if_pos rfl, c_near N hb, bd_s, if_pos rfl, c_far N f3, bd_s, if_neg one_ne0]
        · rw [fX5_line.eq_1, r_near N ha, bd_s, if_neg b01t, r_near N hb, bd_s, if_neg b01t, r_far N f3, bd_s, if_pos b01f]
    · refine iae ?_ ?_
      · rw [fX4_line.eq_1, c_near N ha, bd_s, if_pos rfl, c_far N f2, bd_s, if_neg one_ne0]
      · rw [fX5_line.eq_1, r_near N ha, bd_s, if_neg b01t, r_far N f2, bd_s, if_pos b01f]
  · refine iae ?_ ?_
    · rw [fX4_line.eq_1, c_far N f1, bd_s, if_neg one_ne0]
    · rw [fX5_line.eq_1, r_far N f1, bd_s, if_pos b01f]
/-! a line taken away -/
def rem {α : Type} (i : Nat) (f : Nat → α) (j : Nat) : α := if j < i then f j else f (j + 1)
/-- a row's cells, those from i to t one back -/
def shB (i t : Nat) (f : Nat → Int32) (j : Nat) : Int32 := if i ≤ j ∧ j < t then f (j + 1) else f j
theorem shB_0 (i : Nat) (f : Nat → Int32) : shB i i f = f := by
  funext j
  unfold shB
  rw [if_neg (by omega)]
theorem shB_s {i t : Nat} {f : Nat → Int32} (h : i ≤ t) : upd (shB i t f) t (f (t + 1)) = shB i (t + 1) f := by
  funext j
  by_cases e : j = t
  · subst e
    rw [up_s]
    unfold shB
    rw [if_pos (by omega)]
  · rw [up_n e]
    unfold shB
    by_cases c : i ≤ j ∧ j < t
    · rw [if_pos c, if_pos (by omega)]
    · rw [if_neg c, if_neg (by omega)]
theorem shB_r {i t : Nat} {f : Nat → Int32} : shB i t f (t + 1) = f (t + 1) := by
  unfold shB
  rw [if_neg (by omega)]
theorem LD_rem (hD : LD n A B C la lb lc) {i : Nat} (hi : i < n) : LD (n - 1) (rem i A) (rem i B) (rem i C) (shB i (n - 1) la) (shB i (n - 1) lb) (shB i (n - 1) lc) := by
  intro j hj
  unfold rem shB
  by_cases c : j < i
  · rw [if_pos c, if_pos c, if_pos c, if_neg (by omega), if_neg (by omega), if_neg (by omega)]
    exact hD j (by omega)
  · rw [if_neg c, if_neg c, if_neg c, if_pos (by omega), if_pos (by omega), if_pos (by omega)]
    exact hD (j + 1) (by omega)
theorem LR_rem (hR : LR n A B C) {i : Nat} (hi : i < n) : LR (n - 1) (rem i A) (rem i B) (rem i C) := by
  refine ⟨by have := hR.1; omega, fun j hj => ?_⟩
  unfold rem
  by_cases c : j < i
  · rw [if_pos c, if_pos c, if_pos c]; exact hR.2 j (by omega)
  · rw [if_neg c, if_neg c, if_neg c]; exact hR.2 (j + 1) (by omega)
theorem LU_rem (hU : LU n A B C) {i : Nat} (hi : i < n) : LU (n - 1) (rem i A) (rem i B) (rem i C) := by
  intro j k hj hk h
  unfold rem at h
  by_cases c : j < i
  · rw [if_pos c, if_pos c, if_pos c] at h
    by_cases c2 : k < i
    · rw [if_pos c2, if_pos c2, if_pos c2] at h
      exact hU j k (by omega) (by omega) h
    · rw [if_neg c2, if_neg c2, if_neg c2] at h
      have := hU j (k + 1) (by omega) (by omega) h
      omega
  · rw [if_neg c, if_neg c, if_neg c] at h
    by_cases c2 : k < i
    · rw [if_pos c2, if_pos c2, if_pos c2] at h
      have := hU (j + 1) k (by omega) (by omega) h
      omega
    · rw [if_neg c2, if_neg c2, if_neg c2] at h
      have := hU (j + 1) (k + 1) (by omega) (by omega) h
      omega
theorem c_remove (hn : n ≤ 9) (hN : 70000 ≤ N) {i : Nat} (hi : i < n) : fX1_remove N la lb lc (nI n) (nI i) = some (shB i (n - 1) la, shB i (n - 1) lb, shB i (n - 1) lc, nI (n - 1)) := by
  have h := loop_u (fun f j => fX1_remove_b4 N f (nI (j + 1)) (shB i j la) (shB i j lb) (shB i j lc) (nI n)) (some (shB i (n - 1) la, shB i (n - 1) lb, shB i (n - 1) lc, nI (n - 1))) (n - 1)
    (fun f => by rw [fX1_remove_b4.eq_2, if_pos (nI_le' (by omega) (by omega)), nI_m1 n (by omega)])
  have h2 : ∀ m f j, j + m = n - 1 → i ≤ j → m < f → fX1_remove_b4 N f (nI (j + 1)) (shB i j la) (shB i j lb) (shB i j lc) (nI n) = some (shB i (n - 1) la, shB i (n - 1) lb, shB i (n - 1) lc, nI (n - 1)) := by
    intro m
    induction m with
    | zero =>
      intro f j hj hij hf
      obtain ⟨f', rfl⟩ : ∃ f', f = f' + 1 := ⟨f - 1, by omega⟩
      obtain rfl : j = n - 1 := by omega
      rw [fX1_remove_b4.eq_2, if_pos (nI_le' (by omega) (by omega)), nI_m1 n (by omega)]
    | succ m ih =>
      intro f j hj hij hf
      obtain ⟨f', rfl⟩ : ∃ f', f = f' + 1 := ⟨f - 1, by omega⟩
      rw [fX1_remove_b4.eq_2, if_neg (nI_nle' (by omega) (by omega)), nI_sm, rd_9 (by omega), ck_9 (by omega), rd_9 (by omega), ck_9 (by omega), rd_9 (by omega), ck_9 (by omega), nI_1, nI_clamp (by omega), shB_r, shB_r, shB_r, shB_s hij, shB_s hij, shB_s hij]
      exact ih f' (j + 1) (by omega) (by omega) (by omega)
  have h3 := h2 (n - 1 - i) N i (by omega) (Nat.le_refl i) (by omega)
  rw [shB_0, shB_0, shB_0] at h3
  rw [fX1_remove.eq_1, nI_1]
  exact h3
theorem r_remove (hn : n ≤ 9) (hN : 70000 ≤ N) {i : Nat} (hi : i < n) (t : Int32) : fX5_takeAway_b27 N (nI (n - 1)) t N (nI i) da db dc = some (nI (n - 1), nI (n - 1), shB i (n - 1) da, shB i (n - 1) db, shB i (n - 1) dc, t) := by
  have h2 : ∀ m f j, j + m = n - 1 → i ≤ j → m < f → fX5_takeAway_b27 N (nI (n - 1)) t f (nI j) (shB i j da) (shB i j db) (shB i j dc) = some (nI (n - 1), nI (n - 1), shB i (n - 1) da, shB i (n - 1) db, shB i (n - 1) dc, t) := by
    intro m
    induction m with
    | zero =>
      intro f j hj hij hf
      obtain ⟨f', rfl⟩ : ∃ f', f = f' + 1 := ⟨f - 1, by omega⟩
      obtain rfl : j = n - 1 := by omega
      rw [fX5_takeAway_b27.eq_2, if_pos (nI_le' (by omega) (by omega))]
    | succ m ih =>
      intro f j hj hij hf
      obtain ⟨f', rfl⟩ : ∃ f', f = f' + 1 := ⟨f - 1, by omega⟩
      rw [fX5_takeAway_b27.eq_2, if_neg (nI_nle' (by omega) (by omega)), nI_1, rd_9 (by omega), ck_9 (by omega), rd_9 (by omega), ck_9 (by omega), rd_9 (by omega), ck_9 (by omega), nI_clamp (by omega), shB_r, shB_r, shB_r, shB_s hij, shB_s hij, shB_s hij]
      exact ih f' (j + 1) (by omega) (by omega) (by omega)
  have h3 := h2 (n - 1 - i) N i (by omega) (Nat.le_refl i) (by omega)
  rw [shB_0, shB_0, shB_0] at h3
  exact h3
theorem c_checkLine_t (N : Nat) (hn : n ≤ 9) {i : Nat} (hi : i < n) : fX4_checkLine N (nI n) (nI i) = some (.inr ()) := by
  rw [fX4_checkLine.eq_1, if_neg (idx_lt0 hi (by omega)), fX1_count.eq_1, bd_s, if_pos (idx_ltK hi (by omega))]
theorem c_checkLine_f (N : Nat) {x : Int32} (h : bad x n) : fX4_checkLine N (nI n) x = some (.inl xIOO) := by
  rw [fX4_checkLine.eq_1]
  by_cases c : x < 0
  · rw [if_pos c]
  · rw [if_neg c, fX1_count.eq_1, bd_s, if_neg (bad_K h c)]
theorem r_lineIs_t (N : Nat) (hn : n ≤ 9) {i : Nat} (hi : i < n) : fX5_lineIs N (nI n) (nI i) = some (b01 true) := by
  rw [fX5_lineIs.eq_1, in_t N hi (by omega), bd_s, zo_b]
theorem r_lineIs_f (N : Nat) (hn : n ≤ 9) {x : Int32} (h : bad x n) : fX5_lineIs N (nI n) x = some (b01 false) := by
  rw [fX5_lineIs.eq_1, in_f N h (by omega), bd_s, zo_b]
theorem o_takeAway {ln mn rk_ dn : Int32} (h : St la lb lc ln mx my md mt mv mn rs rn rk_ dn da db dc) (hN : 70000 ≤ N) (t0 : Int32) (o : Nat → Int64) (x1 : Int32) :
    ∃ u v, fL_takeAway N la lb lc ln mx my md mt mv mn rs rn rk_ o x1 = some u ∧ fX5_takeAway N dn da db dc t0 x1 = some v ∧ v.2.2.2.2.2 = u.1 ∧ (u.1 = 0 → u.2.2.2.2.2.2.2.2.2.2.2.2.2.2 0 = Int32.toInt64 v.1) ∧ St u.2.1 u.2.2.1 u.2.2.2.1 u.2.2.2.2.1 u.2.2.2.2.2.1 u.2.2.2.2.2.2.1 u.2.2.2.2.2.2.2.1 u.2.2.2.2.2.2.2.2.1 u.2.2.2.2.2.2.2.2.2.1 u.2.2.2.2.2.2.2.2.2.2.1 u.2.2.2.2.2.2.2.2.2.2.2.1 u.2.2.2.2.2.2.2.2.2.2.2.2.1 u.2.2.2.2.2.2.2.2.2.2.2.2.2.1 v.2.1 v.2.2.1 v.2.2.2.1 v.2.2.2.2.1 := by
  have h0 := h
  obtain ⟨n, A, B, C, K, X, Y, D, ⟨rfl, rfl, hD, hD', hR, hU⟩, -, -⟩ := h
  have hn := hR.1
  rw [fL_takeAway.eq_1, fX4_takeAway.eq_1, fX5_takeAway.eq_1]
  rcases idx x1 (K := n) (by omega) with ⟨i, hi, rfl⟩ | hb
  · have hD2 := LD_rem hD hi
    have hD2' := LD_rem hD' hi
    have hR2 := LR_rem hR hi
    have hU2 := LU_rem hU hi
    obtain ⟨K2, X2, Y2, D2, u2, q1, q2, q3⟩ := c_look hD2 hR2 hU2 hN mx my md mt mv rs rn mn rk_
    rw [c_checkLine_t N hn hi, bdx_r, c_remove hn hN hi, bd_s]
    dsimp only
    rw [q1, bd_s, fX1_count.eq_1, bd_s, bdc_r, r_lineIs_t N hn hi, bd_s, f_t, bd_s, if_pos b01f, nI_m1 n (by omega), r_remove hn hN hi]
    exact ⟨_, _, rfl, rfl, rfl, fun _ => updL0 o _, ⟨n - 1, _, _, _, K2, X2, Y2, D2, ⟨rfl, rfl, hD2, hD2', hR2, hU2⟩, q2, q3⟩⟩
  · rw [c_checkLine_f N hb, bdx_l, bdc_l, if_pos rfl, r_lineIs_f N hn hb, bd_s, f_f, bd_s, if_neg b01t]
    exact ⟨_, _, rfl, rfl, rfl, fun z => absurd z one_ne0, h0⟩
/-! reflections -/
theorem refl_id (a b p q : Int) : ((a * a + b * b) * p - 2 * (p * a + q * b) * a) * ((a * a + b * b) * p - 2 * (p * a + q * b) * a) + ((a * a + b * b) * q - 2 * (p * a + q * b) * b) * ((a * a + b * b) * q - 2 * (p * a + q * b) * b) = (a * a + b * b) * (a * a + b * b) * (p * p + q * q) := by grind
def rfA (A B C : Nat → Int) (l m : Nat) : Int := (A m * A m + B m * B m) * A l - 2 * (A l * A m + B l * B m) * A m
def rfB (A B C : Nat → Int) (l m : Nat) : Int := (A m * A m + B m * B m) * B l - 2 * (A l * A m + B l * B m) * B m
def rfC (A B C : Nat → Int) (l m : Nat) : Int := (A m * A m + B m * B m) * C l - 2 * (A l * A m + B l * B m) * C m
theorem rf_bd (hR : LR n A B C) {l m : Nat} (hl : l < n) (hm : m < n) : (rfA A B C l m).natAbs ≤ 100000 ∧ (rfB A B C l m).natAbs ≤ 100000 ∧ (rfC A B C l m).natAbs ≤ 100000 ∧ ¬ (rfA A B C l m = 0 ∧ rfB A B C l m = 0) := by
  obtain ⟨a1, a2, a3, a4⟩ := hR.2 l hl
  obtain ⟨b1, b2, b3, b4⟩ := hR.2 m hm
  have m1 := mb b1 b1; have m2 := mb b2 b2; have m3 := mb a1 b1; have m4 := mb a2 b2
  have s1 : (A m * A m + B m * B m).natAbs ≤ 162 := by omega
  have s2 : (2 * (A l * A m + B l * B m)).natAbs ≤ 324 := by omega
  have p1 := mb s1 a1; have p2 := mb s1 a2; have p3 := mb s1 a3; have p4 := mb s2 b1; have p5 := mb s2 b2; have p6 := mb s2 b3
  refine ⟨by unfold rfA; omega, by unfold rfB; omega, by unfold rfC; omega, ?_⟩
  rintro ⟨z1, z2⟩
  have e := refl_id (A m) (B m) (A l) (B l)
  unfold rfA at z1
  unfold rfB at z2
  rw [z1, z2] at e
  have q1 := sq_pos a4
  have q2 := sq_pos b4
  have := Int.mul_pos (Int.mul_pos q2 q2) q1
  omega
theorem both_refl (hD : LD n A B C la lb lc) (hD' : LD n A B C da db dc) (hR : LR n A B C) (hU : LU n A B C) (hN : 70000 ≤ N) {l m : Nat} (hl : l < n) (hm : m < n) (a0 b0 c0 : Int32) :
    ∃ v a1 b1 c1, fX1_mirrored N la lb lc (nI n) (nI l) (nI m) = some v ∧ fX5_reflect N (nI n) da db dc a0 b0 c0 (nI l) (nI m) = some (v, a1, b1, c1) := by
  have hn := hR.1
  obtain ⟨b1, b2, b3, b4⟩ := rf_bd hR hl hm
  obtain ⟨v, v1, v2, -⟩ := both_of hD hD' hR hU hN b1 b2 b3 b4
  obtain ⟨e1, e2, e3⟩ := hD l hl
  obtain ⟨e4, e5, e6⟩ := hD m hm
  obtain ⟨g1, g2, g3⟩ := hD' l hl
  obtain ⟨g4, g5, g6⟩ := hD' m hm
  have hl9 : l < 9 := by omega
  have hm9 : m < 9 := by omega
  refine ⟨v, iI (rfA A B C l m), iI (rfB A B C l m), iI (rfC A B C l m), ?_, ?_⟩
  · rw [fX1_mirrored.eq_1]
    simp only [rd_9 hl9, rd_9 hm9, nm_s, e1, e2, e3, e4, e5, e6, iI_mul, iI_add, iI_sub, show (2 : Int32) = iI 2 from rfl]
    show bd (fX1_numberOf N la lb lc (nI n) (iI (rfA A B C l m)) (iI (rfB A B C l m)) (iI (rfC A B C l m))) _ = _
    rw [v1, bd_s]
  · have c1 : A m * A l + B m * B l = A l * A m + B l * B m := by rw [Int.mul_comm (A m), Int.mul_comm (B m)]
    rw [fX5_reflect.eq_1]
    simp only [rd_9 hl9, rd_9 hm9, nm_s, g1, g2, g3, g4, g5, g6, iI_mul, iI_add, iI_sub, show (2 : Int32) = iI 2 from rfl, c1]
    show bd (fX5_lineOf N (nI n) da db dc (iI (rfA A B C l m)) (iI (rfB A B C l m)) (iI (rfC A B C l m))) _ = _
    rw [v2, bd_s]
    rfl
theorem o_reflected (hD : LD n A B C la lb lc) (hD' : LD n A B C da db dc) (hR : LR n A B C) (hU : LU n A B C) (hN : 70000 ≤ N) (a0 b0 c0 t0 : Int32) (o : Nat → Int64) (x1 x2 : Int32) :
    ∃ u v, fL_reflected N la lb lc (nI n) o x1 x2 = some u ∧ fX5_reflected N (nI n) da db dc a0 b0 c0 t0 x1 x2 = some v ∧ v.2.2.2.2 = u.1 ∧ (u.1 = 0 → u.2 0 = Int32.toInt64 v.1) := by
  have hn := hR.1
  rw [fL_reflected.eq_1, fX4_reflected.eq_1, fX5_reflected.eq_1]
  rcases idx x1 (K := n) (by omega) with ⟨l, hl, rfl⟩ | hb
  · rw [c_checkLine_t N hn hl, bdx_r, r_lineIs_t N hn hl, bd_s, f_t, bd_s, if_pos b01f]
    rcases idx x2 (K := n) (by omega) with ⟨m, hm, rfl⟩ | hb
    · obtain ⟨v, a1, b1, c1, e1, e2⟩ := both_refl hD hD' hR hU hN hl hm a0 b0 c0
      rw [c_checkLine_t N hn hm, bdx_r, r_lineIs_t N hn hm, bd_s, f_t, bd_s, if_pos b01f, e1, bd_s, bdc_r, e2, bd_s]
      exact ⟨_, _, rfl, rfl, rfl, fun _ => updL0 o _⟩
    · rw [c_checkLine_f N hb, bdx_l, bdc_l, if_pos rfl, r_lineIs_f N hn hb, bd_s, f_f, bd_s, if_neg b01t]
      exact ⟨_, _, rfl, rfl, rfl, fun z => absurd z one_ne0⟩
  · rw [c_checkLine_f N hb, bdx_l, bdc_l, if_pos rfl, r_lineIs_f N hn hb, bd_s, f_f, bd_s, if_neg b01t]
    exact ⟨_, _, rfl, rfl, rfl, fun z => absurd z one_ne0⟩
end OC
