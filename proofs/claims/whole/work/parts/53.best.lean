/-! ===== best ===== -/
section OBE
variable {n : Nat} {A B C : Nat → Int} {la lb lc da db dc : Nat → Int32} {N : Nat} {K : Nat} {X Y D : Nat → Int} {mx my md mt mv rs rn : Nat → Int32} {x' y' d' r' : Nat → Int32} {rk_ : Int32}
noncomputable def hasB (n : Nat) (A B : Nat → Int) (s : Nat) (gx gy : Int) : Bool := bP (¬ goes n A B s gx gy ∧ ∀ k, k < n → (0 < gx * B k + gy * -A k → ¬ goes n A B s (B k) (-A k)) ∧ (gx * B k + gy * -A k < 0 → ¬ goes n A B s (-B k) (A k)))
theorem c_hasBound (hD : LD n A B C la lb lc) (hR : LR n A B C) (hN : 70000 ≤ N) {i s : Nat} (hi : i < 46) (hs : s < 512) (hrs : rs i = nI s) {gx gy : Int} (hx : gx.natAbs ≤ 9) (hy : gy.natAbs ≤ 9) : fX3_hasBound N la lb (nI n) rs (nI i) (iI gx) (iI gy) = some (b01 (hasB n A B s gx gy)) := by
  have hn := hR.1
  rw [fX3_hasBound.eq_1]
  obtain ⟨Kc, hKc⟩ : ∃ Kc : Option Int32, Kc = (rd rs 46 (nI i) (fun v_533 => bd (fX1_staysIn N la lb (nI n) v_533 (iI gx) (iI gy)) (fun u_534 => if u_534 = 0 then zo 1 (some 1) else zo 0 (some 0)))) := ⟨_, rfl⟩
  have hKv : Kc = some (b01 (!bP (goes n A B s gx gy))) := by
    rw [hKc, rd_46 hi, hrs, m_staysIn hD hR hN hs (by omega) (by omega), bd_s]
    by_cases c : goes n A B s gx gy
    · rw [bP_t c, if_neg b01t, zo_0]; rfl
    · rw [bP_f c, if_pos b01f, zo_1]; rfl
  rw [← hKc]
  have hst : ∀ k, k < n → ∀ f, (¬ ((0 < gx * B k + gy * -A k → ¬ goes n A B s (B k) (-A k)) ∧ (gx * B k + gy * -A k < 0 → ¬ goes n A B s (-B k) (A k))) → fX3_hasBound_b3 N la lb (nI n) rs (nI i) (iI gx) (iI gy) Kc (f + 1) (nI k) = some 0) ∧ (((0 < gx * B k + gy * -A k → ¬ goes n A B s (B k) (-A k)) ∧ (gx * B k + gy * -A k < 0 → ¬ goes n A B s (-B k) (A k))) → fX3_hasBound_b3 N la lb (nI n) rs (nI i) (iI gx) (iI gy) Kc (f + 1) (nI k) = fX3_hasBound_b3 N la lb (nI n) rs (nI i) (iI gx) (iI gy) Kc f (nI (k + 1))) := by
    intro k hk f
    obtain ⟨a1, a2, a3⟩ := hD k hk
    obtain ⟨r1, r2, r3, r4⟩ := hR.2 k hk
    have m1 := mb hx r2
    have m2 := mb hy (show (-A k).natAbs ≤ 9 by omega)
    have hsm : sm (gx * B k + gy * -A k) := by unfold sm; omega
    rw [fX3_hasBound_b3.eq_2, fX1_count.eq_1, bd_s, if_neg (nI_nle' (by omega) hk), fX1_b.eq_1, rd_9 (by omega), bd_s, fX1_a.eq_1, rd_9 (by omega), bd_s, a1, a2, iI_neg, iI_mul, iI_mul, iI_add, nm_s]
    have hb65 : fX3_hasBound_b65 N la lb (nI n) rs (nI i) (iI (B k)) (iI (-A k)) (iI (gx * B k + gy * -A k)) (nI k) (fun (x5_527 : Int32) => fX3_hasBound_b3 N la lb (nI n) rs (nI i) (iI gx) (iI gy) Kc f x5_527) = if bP (gx * B k + gy * -A k < 0 ∧ goes n A B s (-B k) (A k)) = true then some 0 else fX3_hasBound_b3 N la lb (nI n) rs (nI i) (iI gx) (iI gy) Kc f (nI (k + 1)) := by
      rw [fX3_hasBound_b65.eq_1, nI_1]
      by_cases c : 0 ≤ gx * B k + gy * -A k
      · rw [if_pos (by rw [iI_ge0 hsm]; exact c), bP_f (fun z => by omega), if_neg (by decide)]
      · rw [if_neg (by rw [iI_ge0 hsm]; exact c), rd_46 hi, hrs, iI_neg, iI_neg, Int.neg_neg, m_staysIn hD hR hN hs (by omega) (by omega), bd_s]
        by_cases c2 : goes n A B s (-B k) (A k)
        · rw [bP_t c2, if_neg b01t, bP_t ⟨by omega, c2⟩, if_pos rfl, zo_0]
        · rw [bP_f c2, if_pos b01f, bP_f (fun z => c2 z.2), if_neg (by decide)]
    by_cases c : gx * B k + gy * -A k ≤ 0
    · rw [if_pos (by rw [iI_le0 hsm]; exact c), hb65]
      constructor
      · intro h
        rw [bP_t, if_pos rfl]
        apply Classical.byContradiction
        intro z
        exact h ⟨fun w => by omega, fun w g => z ⟨w, g⟩⟩
      · intro h
        rw [bP_f (fun z => h.2 z.1 z.2), if_neg (by decide)]
    · rw [if_neg (by rw [iI_le0 hsm]; exact c), rd_46 hi, hrs, m_staysIn hD hR hN hs (by omega) (by omega), bd_s, hb65]
      by_cases c2 : goes n A B s (B k) (-A k)
      · rw [bP_t c2, if_neg b01t, zo_0]
        exact ⟨fun _ => rfl, fun h => absurd c2 (h.1 (by omega))⟩
      · rw [bP_f c2, if_pos b01f, bP_f (fun z => by omega), if_neg (by decide)]
        exact ⟨fun h => absurd ⟨fun _ => c2, fun w => by omega⟩ h, fun _ => rfl⟩
  rcases loop_find (fun f k => fX3_hasBound_b3 N la lb (nI n) rs (nI i) (iI gx) (iI gy) Kc f (nI k)) (fun k => ¬ ((0 < gx * B k + gy * -A k → ¬ goes n A B s (B k) (-A k)) ∧ (gx * B k + gy * -A k < 0 → ¬ goes n A B s (-B k) (A k)))) (fun _ => some 0) Kc n
    (fun f => by rw [fX3_hasBound_b3.eq_2, fX1_count.eq_1, bd_s, if_pos (nI_le' (by omega) (Nat.le_refl n))])
    (fun f k hk h => (hst k hk f).1 h) (fun f k hk h => (hst k hk f).2 (Classical.not_not.mp h))
    n N 0 (by omega) (by omega) with ⟨k, -, h1, h2, -, h3⟩ | ⟨h1, h2⟩
  · unfold hasB
    rw [bP_f (fun z => h2 (z.2 k h1))]
    exact h3
  · rw [show nI 0 = (0 : Int32) from rfl] at h2
    rw [h2, hKv]
    unfold hasB
    by_cases c : goes n A B s gx gy
    · rw [bP_t c, bP_f (fun z => z.1 c)]; rfl
    · rw [bP_f c, bP_t ⟨c, fun k hk => Classical.not_not.mp (h1 k (Nat.zero_le k) hk)⟩]; rfl
abbrev FB7 : Type := Int32 × Int32 × (Nat → Int32) × (Nat → Int32) × (Nat → Int32) × (Nat → Int32) × Int32
theorem r_hasBound (hD' : LD n A B C da db dc) (hR : LR n A B C) (hN : 70000 ≤ N) {s : Nat} (hs : s < 512) {gx gy : Int} (hx : gx.natAbs ≤ 9) (hy : gy.natAbs ≤ 9) (Kc : Int32 → Option FB7) : fX5_best_b88 N (nI n) da db (iI gx) (iI gy) (nI s) Kc N (b01 (!bP (goes n A B s gx gy))) 0 = Kc (b01 (hasB n A B s gx gy)) := by
  have hn := hR.1
  have h := loop_u (fun f j => fX5_best_b88 N (nI n) da db (iI gx) (iI gy) (nI s) Kc f (b01 (bP (¬ goes n A B s gx gy ∧ ∀ k, k < j → (0 < gx * B k + gy * -A k → ¬ goes n A B s (B k) (-A k)) ∧ (gx * B k + gy * -A k < 0 → ¬ goes n A B s (-B k) (A k))))) (nI j)) (Kc (b01 (hasB n A B s gx gy))) n
    (fun f => by rw [fX5_best_b88.eq_2, if_pos (nI_le' (by omega) (Nat.le_refl n))]; rfl)
    (fun f k hk => by
      obtain ⟨a1, a2, a3⟩ := hD' k hk
      obtain ⟨r1, r2, r3, r4⟩ := hR.2 k hk
      have m1 := mb hx r2
      have m2 := mb hy (show (-A k).natAbs ≤ 9 by omega)
      have hsm : sm (gx * B k + gy * -A k) := by unfold sm; omega
      have e0 : ∀ b, b01 b &&& 0 = b01 false := fun b => by cases b <;> decide
      have e1 : ∀ b, b01 b &&& 1 = b01 b := fun b => by cases b <;> decide
      have eg : B k * gx - A k * gy = gx * B k + gy * -A k := by grind
      have hyes : ((0 < gx * B k + gy * -A k → ¬ goes n A B s (B k) (-A k)) ∧ (gx * B k + gy * -A k < 0 → ¬ goes n A B s (-B k) (A k))) → bP (¬ goes n A B s gx gy ∧ ∀ j, j < k + 1 → (0 < gx * B j + gy * -A j → ¬ goes n A B s (B j) (-A j)) ∧ (gx * B j + gy * -A j < 0 → ¬ goes n A B s (-B j) (A j))) = bP (¬ goes n A B s gx gy ∧ ∀ j, j < k → (0 < gx * B j + gy * -A j → ¬ goes n A B s (B j) (-A j)) ∧ (gx * B j + gy * -A j < 0 → ¬ goes n A B s (-B j) (A j))) := by
        intro h
        apply bP_cong
        constructor
        · rintro ⟨z1, z⟩; exact ⟨z1, fun j hj => z j (by omega)⟩
        · rintro ⟨z1, z⟩
          refine ⟨z1, fun j hj => ?_⟩
          by_cases e : j = k
          · subst e; exact h
          · exact z j (by omega)
      have hno : ¬ ((0 < gx * B k + gy * -A k → ¬ goes n A B s (B k) (-A k)) ∧ (gx * B k + gy * -A k < 0 → ¬ goes n A B s (-B k) (A k))) → bP (¬ goes n A B s gx gy ∧ ∀ j, j < k + 1 → (0 < gx * B j + gy * -A j → ¬ goes n A B s (B j) (-A j)) ∧ (gx * B j + gy * -A j < 0 → ¬ goes n A B s (-B j) (A j))) = false := fun h => bP_f (fun z => h (z.2 k (by omega)))
      rw [fX5_best_b88.eq_2, if_neg (nI_nle' (by omega) hk), rd_9 (by omega), rd_9 (by omega), a1, a2, iI_mul, iI_mul, iI_sub, nm_s, eg]
      have hb : ∀ b : Bool, fX5_best_b149 N (nI n) da db (nI s) (iI (gx * B k + gy * -A k)) (nI k) (b01 b) (fun (x5_1022 x6_1023 : Int32) => fX5_best_b88 N (nI n) da db (iI gx) (iI gy) (nI s) Kc f x5_1022 x6_1023) = fX5_best_b88 N (nI n) da db (iI gx) (iI gy) (nI s) Kc f (b01 (b && !bP (gx * B k + gy * -A k < 0 ∧ goes n A B s (-B k) (A k)))) (nI (k + 1)) := by
        intro b
        rw [fX5_best_b149.eq_1, nI_1, e0, e1]
        by_cases c : 0 ≤ gx * B k + gy * -A k
        · rw [if_pos (by rw [iI_ge0 hsm]; exact c), bP_f (fun z => by omega)]
          cases b <;> rfl
        · rw [if_neg (by rw [iI_ge0 hsm]; exact c), rd_9 (by omega), rd_9 (by omega), a1, a2, iI_neg, m_goesOn hD' hR hN hs (by omega) (by omega), bd_s]
          by_cases c2 : goes n A B s (-B k) (A k)
          · rw [bP_t c2, if_neg b01t, bP_t ⟨by omega, c2⟩]
            cases b <;> rfl
          · rw [bP_f c2, if_pos b01f, bP_f (fun z => c2 z.2)]
            cases b <;> rfl
      by_cases c : gx * B k + gy * -A k ≤ 0
      · rw [if_pos (by rw [iI_le0 hsm]; exact c), hb]
        by_cases c2 : gx * B k + gy * -A k < 0 ∧ goes n A B s (-B k) (A k)
        · rw [bP_t c2, hno (fun z => z.2 c2.1 c2.2)]
          cases bP (¬ goes n A B s gx gy ∧ ∀ j, j < k → (0 < gx * B j + gy * -A j → ¬ goes n A B s (B j) (-A j)) ∧ (gx * B j + gy * -A j < 0 → ¬ goes n A B s (-B j) (A j))) <;> rfl
        · rw [bP_f c2, hyes ⟨fun z => by omega, fun z w => c2 ⟨z, w⟩⟩]
          cases bP (¬ goes n A B s gx gy ∧ ∀ j, j < k → (0 < gx * B j + gy * -A j → ¬ goes n A B s (B j) (-A j)) ∧ (gx * B j + gy * -A j < 0 → ¬ goes n A B s (-B j) (A j))) <;> rfl
      · rw [if_neg (by rw [iI_le0 hsm]; exact c), rd_9 (by omega), rd_9 (by omega), a1, a2, iI_neg, m_goesOn hD' hR hN hs (by omega) (by omega), bd_s, hb, nI_1, e0]
        by_cases c2 : goes n A B s (B k) (-A k)
        · rw [bP_t c2, if_neg b01t, hno (fun z => z.1 (by omega) c2)]
        · rw [bP_f c2, if_pos b01f, bP_f (P := gx * B k + gy * -A k < 0 ∧ goes n A B s (-B k) (A k)) (fun z => by omega), hyes ⟨fun _ => c2, fun z => by omega⟩]
          cases bP (¬ goes n A B s gx gy ∧ ∀ j, j < k → (0 < gx * B j + gy * -A j → ¬ goes n A B s (B j) (-A j)) ∧ (gx * B j + gy * -A j < 0 → ¬ goes n A B s (-B j) (A j))) <;> rfl)
    n N 0 (by omega) (by omega)
  have e : bP (¬ goes n A B s gx gy ∧ ∀ k, k < 0 → (0 < gx * B k + gy * -A k → ¬ goes n A B s (B k) (-A k)) ∧ (gx * B k + gy * -A k < 0 → ¬ goes n A B s (-B k) (A k))) = !bP (goes n A B s gx gy) := by
    by_cases c : goes n A B s gx gy
    · rw [bP_t c, bP_f (fun z => z.1 c)]; rfl
    · rw [bP_f c, bP_t ⟨c, fun k hk => absurd hk (Nat.not_lt_zero k)⟩]; rfl
  rw [e] at h
  exact h
theorem i64 {z : Int} (h : -9223372036854775808 ≤ z ∧ z < 9223372036854775808) : z.bmod (2 ^ 64) = z := Int.bmod_eq_of_le (by omega) (by omega)
theorem lg_le {u v w z : Int} (hu : u.natAbs ≤ 100000) (hv : v.natAbs ≤ 1000) (hw : w.natAbs ≤ 100000) (hz : z.natAbs ≤ 1000) : (lg_cmp (Int32.toInt64 (iI u) * Int32.toInt64 (iI v)) (Int32.toInt64 (iI w) * Int32.toInt64 (iI z)) ≤ 0) ↔ u * v ≤ w * z := by
  have m1 := mb hu hv
  have m2 := mb hw hz
  have e1 : (Int32.toInt64 (iI u) * Int32.toInt64 (iI v)).toInt = u * v := by
    rw [Int64.toInt_mul, Int32.toInt_toInt64, Int32.toInt_toInt64, iI_toInt (sm_of hu), iI_toInt (sm_of hv), i64 (by omega)]
  have e2 : (Int32.toInt64 (iI w) * Int32.toInt64 (iI z)).toInt = w * z := by
    rw [Int64.toInt_mul, Int32.toInt_toInt64, Int32.toInt_toInt64, iI_toInt (sm_of hw), iI_toInt (sm_of hz), i64 (by omega)]
  unfold lg_cmp
  by_cases c : Int32.toInt64 (iI w) * Int32.toInt64 (iI z) < Int32.toInt64 (iI u) * Int32.toInt64 (iI v)
  · rw [if_pos c]
    rw [Int64.lt_iff_toInt_lt, e1, e2] at c
    exact ⟨fun h => absurd h (by decide), fun h => by omega⟩
  · rw [if_neg c]
    rw [Int64.lt_iff_toInt_lt, e1, e2] at c
    refine ⟨fun _ => by omega, fun _ => ?_⟩
    split <;> decide
def goal (gx gy : Int) (X Y : Nat → Int) (m : Nat) : Int := gx * X m + gy * Y m
theorem c_better (hR : LR n A B C) (hM : MSp n A B C K X Y D) (hP : Rp K X Y D mx my md) (hK : K ≤ 36) (N : Nat) {m o : Nat} (hm : m < K) (ho : o < K) {gx gy : Int} (hx : gx.natAbs ≤ 9) (hy : gy.natAbs ≤ 9) : fX2_isBetter N mx my md (nI m) (nI o) (iI gx) (iI gy) = some (b01 (decide (goal gx gy X Y o * D m < goal gx gy X Y m * D o))) := by
  obtain ⟨g1, g2, g3⟩ := hP m hm
  obtain ⟨g4, g5, g6⟩ := hP o ho
  obtain ⟨b1, b2, b3, b4⟩ := RowQ_bd hM hR hm
  obtain ⟨b5, b6, b7, b8⟩ := RowQ_bd hM hR ho
  have m1 := mb hx b1; have m2 := mb hy b2; have m3 := mb hx b5; have m4 := mb hy b6
  have q1 : (goal gx gy X Y m).natAbs ≤ 3000 := by unfold goal; omega
  have q2 : (goal gx gy X Y o).natAbs ≤ 3000 := by unfold goal; omega
  have m5 := mb q1 b7; have m6 := mb q2 b3
  rw [fX2_isBetter.eq_1, rd_36 (by omega), rd_36 (by omega), g1, g2, iI_mul, iI_mul, iI_add, nm_s, rd_36 (by omega), rd_36 (by omega), g4, g5, iI_mul, iI_mul, iI_add, nm_s, rd_36 (by omega), rd_36 (by omega), g6, g3, iI_mul, iI_mul, show gx * X m + gy * Y m = goal gx gy X Y m from rfl, show gx * X o + gy * Y o = goal gx gy X Y o from rfl, zo_0, zo_1]
  by_cases c : goal gx gy X Y m * D o ≤ goal gx gy X Y o * D m
  · rw [if_pos (by rw [iI_le (by unfold sm; omega) (by unfold sm; omega)]; exact c), decide_eq_false (by omega)]; rfl
  · rw [if_neg (by rw [iI_le (by unfold sm; omega) (by unfold sm; omega)]; exact c), decide_eq_true (by omega)]; rfl
theorem o_best (hD : LD n A B C la lb lc) (hD' : LD n A B C da db dc) (hR : LR n A B C) (hU : LU n A B C) (hN : 70000 ≤ N) (hM : MSp n A B C K X Y D) (hPc : Rp K X Y D mx my md) (hT : Tp K (fun j => thrS n A B C (X j) (Y j) (D j)) mt) (hV : Tp K (fun j => abvS n A B C (X j) (Y j) (D j)) mv) (hK : K ≤ 36) (hRN : RN n A B C rs rn rk_) (k0 : Int32) (x0 y0 d0 r0 : Nat → Int32) (t0 : Int32) (o : Nat → Int64) (x1 x2 x3 : Int32) :
    ∃ u v, fL_best N la lb (nI n) mx my md mt mv (nI K) rs rk_ o x1 x2 x3 = some u ∧ fX5_best N (nI n) da db dc k0 x0 y0 d0 r0 t0 x1 x2 x3 = some v ∧ v.2.2.2.2.2.2 = u.1 ∧ (u.1 = 0 → u.2 0 = Int32.toInt64 v.1) := by
  have hn := hR.1
  have h46 := cnt_512 (C := C) hR.1 (LR_n0 hR)
  obtain ⟨x', y', d', r', hP, hr, rt, rf⟩ := r_roomIs hD' hR hU hN hM hK k0 x0 y0 d0 r0
  obtain ⟨h1, h2, h3⟩ := id hRN
  rw [fL_best.eq_1, fX4_best.eq_1, fX5_best.eq_1, h1]
  rcases idx x1 (K := rk (rB n A B C) 512) (by omega) with ⟨i, hi, rfl⟩ | hb
  · obtain ⟨s, hs, hp, rfl⟩ := room_ex hi
    have hsn := real_lt (rB_t.mp hp)
    have hrs := h3 s hs hp
    rw [c_checkRoom_t N h46 hi, bdx_r, rt _ hi, bd_s, f_t, bd_s, if_pos b01f]
    dsimp only
    rw [r_setOf hr hN hs hp, bd_s]
    have iae : ∀ (a : Option (String ⊕ Int32)) (b : Option FB7), a = some (.inl xIAE) → b = fX5_best_b58 N (nI n) da db dc (nI K) x' y' d' r' x2 x3 (nI s) 0 0 → ∃ u v, bdc a (fun e => if e = xIOO then some (1, o) else if e = xIAE then some (2, o) else none) (fun t => some (0, vp_updL o 0 (Int32.toInt64 t))) = some u ∧ b = some v ∧ v.2.2.2.2.2.2 = u.1 ∧ (u.1 = 0 → u.2 0 = Int32.toInt64 v.1) := by
      intro a b e1 e2
      rw [e1, e2, bdc_l, if_neg xne1, if_pos rfl, fX5_best_b58.eq_1, f_f', bd_s, if_neg b01t]
      exact ⟨_, _, rfl, rfl, rfl, fun z => absurd z two_ne0⟩
    rcases near_or x2 with ⟨gx, hx, rfl⟩ | f2
    · rcases near_or x3 with ⟨gy, hy, rfl⟩ | f3
      · by_cases hab : gx = 0 ∧ gy = 0
        · obtain ⟨rfl, rfl⟩ := hab
          refine iae _ _ ?_ ?_
          · rw [c_near N hx, bd_s, if_pos rfl, bd_s, if_pos rfl, if_pos (show iI 0 = 0 from rfl), if_pos (show iI 0 = 0 from rfl)]
          · rw [r_near N hx, bd_s, if_neg b01t, bd_s, if_neg b01t, if_pos (show iI 0 = 0 from rfl), if_pos (show iI 0 = 0 from rfl)]
        · have e1 : ∀ {α : Type} (a b : α), (if iI gx = 0 then if iI gy = 0 then a else b else b) = b := by
            intro α a b
            by_cases c1 : gx = 0
            · rw [if_pos (by rw [iI_eq0 (sm_of hx)]; exact c1), if_neg (by rw [iI_eq0 (sm_of hy)]; exact fun z => hab ⟨c1, z⟩)]
            · rw [if_neg (by rw [iI_eq0 (sm_of hx)]; exact c1)]
          rw [c_near N hx, bd_s, if_pos rfl, c_near N hy, bd_s, if_pos rfl, e1, r_near N hx, bd_s, if_neg b01t, r_near N hy, bd_s, if_neg b01t, e1, fX4_best_b37.eq_1, c_hasBound hD hR hN (by omega) hs hrs hx hy, bd_s, fX5_best_b58.eq_1, f_t', bd_s, if_pos b01f, m_goesOn hD' hR hN hs (by omega) (by omega), bd_s]
          have e2 : (if b01 (bP (goes n A B s gx gy)) = 0 then fX5_best_b88 N (nI n) da db (iI gx) (iI gy) (nI s) (fun (x5_1058 : Int32) => fX5_best_b198 N (nI n) da db dc (nI K) x' y' d' r' 0 (iI gx) (iI gy) (nI s) x5_1058 N (-1) 0) N 1 0 else fX5_best_b88 N (nI n) da db (iI gx) (iI gy) (nI s) (fun (x5_1057 : Int32) => fX5_best_b198 N (nI n) da db dc (nI K) x' y' d' r' 0 (iI gx) (iI gy) (nI s) x5_1057 N (-1) 0) N 0 0) = fX5_best_b198 N (nI n) da db dc (nI K) x' y' d' r' 0 (iI gx) (iI gy) (nI s) (b01 (hasB n A B s gx gy)) N (-1) 0 := by
            have h := r_hasBound hD' hR hN hs hx hy (fun (x5_1058 : Int32) => fX5_best_b198 N (nI n) da db dc (nI K) x' y' d' r' 0 (iI gx) (iI gy) (nI s) x5_1058 N (-1) 0)
            by_cases c : goes n A B s gx gy
            · rw [bP_t c] at h ⊢
              rw [if_neg b01t]
              exact h
            · rw [bP_f c] at h ⊢
              rw [if_pos b01f]
              exact h
          dsimp only
          rw [e2]
          by_cases hb : hasB n A B s gx gy = true
          · rw [hb, if_neg b01t, fX3_set.eq_1, rd_46 (by omega), hrs, bd_s, fX2_bestCorner.eq_1]
            have step : ∀ m j f g (best : Int32), j + m = K → m < f → m < g → (best = -1 ∨ ∃ q, q < j ∧ best = nI q) → ∃ val, fX2_bestCorner_b6 N mx my md mt mv (nI K) (nI s) (iI gx) (iI gy) f best (nI j) = some val ∧ fX5_best_b198 N (nI n) da db dc (nI K) x' y' d' r' 0 (iI gx) (iI gy) (nI s) (b01 true) g best (nI j) = some (val, nI K, x', y', d', r', 0) := by
              intro m
              induction m with
              | zero =>
                intro j f g best hj hf hg hbest
                obtain ⟨f', rfl⟩ : ∃ f', f = f' + 1 := ⟨f - 1, by omega⟩
                obtain ⟨g', rfl⟩ : ∃ f', g = f' + 1 := ⟨g - 1, by omega⟩
                obtain rfl : j = K := by omega
                rw [fX2_bestCorner_b6.eq_2, if_pos (nI_le' (by omega) (Nat.le_refl j)), fX5_best_b198.eq_2, if_pos (nI_le' (by omega) (Nat.le_refl j))]
                exact ⟨_, rfl, rfl⟩
              | succ m ih =>
                intro j f g best hj hf hg hbest
                obtain ⟨f', rfl⟩ : ∃ f', f = f' + 1 := ⟨f - 1, by omega⟩
                obtain ⟨g', rfl⟩ : ∃ f', g = f' + 1 := ⟨g - 1, by omega⟩
                have hj' : j < K := by omega
                have ihb : ∀ best : Int32, (best = -1 ∨ ∃ q, q < j + 1 ∧ best = nI q) → _ := fun best hb => ih (j + 1) f' g' best (by omega) (by omega) (by omega) hb
                rw [fX2_bestCorner_b6.eq_2, if_neg (nI_nle' (by omega) hj'), c_isCorner hn hT hV hK N hj' hs hsn, bd_s, fX5_best_b198.eq_2, if_neg (nI_nle' (by omega) hj'), if_neg b01t, r_isCorner hD' hR hM hP hK hN hj' hs, bd_s, nI_1]
                rcases corB n A B C s (X j) (Y j) (D j) with _ | _
                · rw [if_pos b01f, if_pos b01f]
                  exact ihb best (hbest.imp id (fun ⟨q, hq, e⟩ => ⟨q, by omega, e⟩))
                · rw [if_neg b01t, if_neg b01t]
                  rcases hbest with hb1 | ⟨q, hq, hb1⟩
                  · rw [if_pos hb1, if_pos hb1, fX5_best_b296.eq_1, if_neg one_ne0, nI_1]
                    exact ihb (nI j) (Or.inr ⟨j, by omega, rfl⟩)
                  · subst hb1
                    have hq' : q < K := by omega
                    obtain ⟨g1, g2, g3⟩ := hP j hj'
                    obtain ⟨g4, g5, g6⟩ := hP q hq'
                    obtain ⟨b1, b2, b3, b4⟩ := RowQ_bd hM hR hj'
                    obtain ⟨b5, b6, b7, b8⟩ := RowQ_bd hM hR hq'
                    have m1 := mb hx b1; have m2 := mb hy b2; have m3 := mb hx b5; have m4 := mb hy b6
                    have q1 : (goal gx gy X Y j).natAbs ≤ 100000 := by unfold goal; omega
                    have q2 : (goal gx gy X Y q).natAbs ≤ 100000 := by unfold goal; omega
                    have hne : ¬ nI q = -1 := nI_ne_m1 (by omega)
                    rw [if_neg hne, if_neg hne, c_better hR hM hPc hK N hj' hq' hx hy, bd_s, rd_36 (by omega), rd_36 (by omega), rd_36 (by omega), rd_36 (by omega), rd_36 (by omega), rd_36 (by omega), g1, g2, g3, g4, g5, g6, iI_mul, iI_mul, iI_add, iI_mul, iI_mul, iI_add, fX5_best_b296.eq_1, fX5_best_b296.eq_1, if_pos rfl, if_neg one_ne0, nI_1, show gx * X j + gy * Y j = goal gx gy X Y j from rfl, show gx * X q + gy * Y q = goal gx gy X Y q from rfl]
                    by_cases c : goal gx gy X Y q * D j < goal gx gy X Y j * D q
                    · rw [decide_eq_true c, if_neg b01t, if_neg (by rw [lg_le q1 (by omega) q2 (by omega)]; omega)]
                      exact ihb (nI j) (Or.inr ⟨j, by omega, rfl⟩)
                    · rw [decide_eq_false c, if_pos b01f, if_pos (by rw [lg_le q1 (by omega) q2 (by omega)]; omega)]
                      exact ihb (nI q) (Or.inr ⟨q, by omega, rfl⟩)
            obtain ⟨val, v1, v2⟩ := step K 0 N N (-1) (by omega) (by omega) (by omega) (Or.inl rfl)
            rw [show nI 0 = (0 : Int32) from rfl] at v1 v2
            rw [v1, v2, bd_s, bdc_r]
            exact ⟨_, _, rfl, rfl, rfl, fun _ => updL0 o _⟩
          · rw [Bool.eq_false_iff.mpr hb, if_pos b01f, bdc_r]
            obtain ⟨f, rfl⟩ : ∃ f, N = f + 1 := ⟨N - 1, by omega⟩
            have e3 : fX5_best_b198 (f + 1) (nI n) da db dc (nI K) x' y' d' r' 0 (iI gx) (iI gy) (nI s) (b01 false) (f + 1) (-1) 0 = some (-1, nI K, x', y', d', r', 0) := by
              rw [fX5_best_b198.eq_2, if_pos b01f]
              split <;> rfl
            rw [e3]
            exact ⟨_, _, rfl, rfl, rfl, fun _ => updL0 o _⟩
      · refine iae _ _ ?_ ?_
        · rw [c_near N hx, bd_s, if_pos rfl, c_far N f3, bd_s, if_neg one_ne0]
        · rw [r_near N hx, bd_s, if_neg b01t, r_far N f3, bd_s, if_pos b01f]
    · refine iae _ _ ?_ ?_
      · rw [c_far N f2, bd_s, if_neg one_ne0]
      · rw [r_far N f2, bd_s, if_pos b01f]
  · rw [c_checkRoom_f N hb, bdx_l, bdc_l, if_pos rfl, rf _ hb, bd_s, f_f, bd_s, if_neg b01t]
    exact ⟨_, _, rfl, rfl, rfl, fun z => absurd z one_ne0⟩
end OBE
