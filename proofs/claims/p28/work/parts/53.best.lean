/-! ===== best ===== -/
section OBE
variable {n : Nat} {A B C : Nat → Int} {la lb lc da db dc : Nat → Int32} {N : Nat} {K : Nat} {X Y D : Nat → Int} {mx my md mt mv rs rn : Nat → Int32} {x' y' d' r' : Nat → Int32} {rk_ : Int32}
noncomputable def hasB (n : Nat) (A B : Nat → Int) (s : Nat) (gx gy : Int) : Bool := bP (¬ goes n A B s gx gy ∧ ∀ k, k < n → (0 < gx * B k + gy * -A k → ¬ goes n A B s (B k) (-A k)) ∧ (gx * B k + gy * -A k < 0 → ¬ goes n A B s (-B k) (A k)))
theorem c_hasBound (hD : LD n A B C la lb lc) (hR : LR n A B C) (hN : 70000 ≤ N) {i s : Nat} (hi : i < 46) (hs : s < 512) (hrs : rs i = nI s) {gx gy : Int} (hx : gx.natAbs ≤ 9) (hy : gy.natAbs ≤ 9) : fX3_hasBound N la lb (nI n) rs (nI i) (iI gx) (iI gy) = some (b01 (hasB n A B s gx gy)) := by
  have hn := hR.1
  rw [fX3_hasBound.eq_1]
  obtain ⟨Kc, hKc⟩ : ∃ Kc : Option Int32, Kc = (rd rs 46 (nI i) (fun v_533 => bd (fX1_staysIn N la lb (nI n) v_533 (iI gx) (iI gy)) (fun u_534 => if u_534 = 0 then zo 1 (some 1) else zo 0 (some 0)))) := ⟨_, rfl⟩
  have hKv : Kc = some (b01 (!bP (goes n A B s gx gy))) := by
    rw [hKc, rd_46 hi, hrs, m_staysIn hD hR hN hs (by omega) (by omega), bd_s]
    by_cases c : goes n A B s gx gy
    · rw [bP_t c, if_neg b01t, zo_0]; rfl
    · rw [bP_f c, if_pos b01f, zo_1]; rfl
  rw [← hKc]
  have hst : ∀ k, k < n → ∀ f, (¬ ((0 < gx * B k + gy * -A k → ¬ goes n A B s (B k) (-A k)) ∧ (gx * B k + gy * -A k < 0 → ¬ goes n A B s (-B k) (A k))) → fX3_hasBound_b3 N la lb (nI n) rs (nI i) (iI gx) (iI gy) Kc (f + 1) (nI k) = some 0) ∧ (((0 < gx * B k + gy * -A k → ¬ goes n A B s (B k) (-A k)) ∧ (gx * B k + gy * -A k < 0 → ¬ goes n A B s (-B k) (A k))) → fX3_hasBound_b3 N la lb (nI n) rs (nI i) (iI gx) (iI gy) Kc (f + 1) (nI k) = fX3_hasBound_b3 N la lb (nI n) rs (nI i) (iI gx) (iI gy) Kc f (nI (k + 1))) := by
    intro k hk f
    obtain ⟨a1, a2, a3⟩ := hD k hk
    obtain ⟨r1, r2, r3, r4⟩ := hR.2 k hk
    have m1 := mb hx r2
    have m2 := mb hy (show (-A k).natAbs ≤ 9 by omega)
    have hsm : sm (gx * B k + gy * -A k) := by unfold sm; omega
    rw [fX3_hasBound_b3.eq_2, fX1_count.eq_1, bd_s, if_neg (nI_nle' (by omega) hk), fX1_b.eq_1, rd_9 (by omega), bd_s, fX1_a.eq_1, rd_9 (by omega), bd_s, a1, a2, iI_neg, iI_mul, iI_mul, iI_add, nm_s]
    have hb65 : fX3_hasBound_b65 N la lb (nI n) rs (nI i) (iI (B k)) (iI (-A k)) (iI (gx * B k + gy * -A k)) (nI k) (fun (x5_527 : Int32) => fX3_hasBound_b3 N la lb (nI n) rs (nI i) (iI gx) (iI gy) Kc f x5_527) = if bP (gx * B k + gy * -A k < 0 ∧ goes n A B s (-B k) (A k)) = true then some 0 else fX3_hasBound_b3 N la lb (nI n) rs (nI i) (iI gx) (iI gy) Kc f (nI (k + 1)) := by
      rw [fX3_hasBound_b65.eq_1, nI_1]
      by_cases c : 0 ≤ gx * B k + gy * -A k
      · rw [if_pos (by rw [iI_ge0 hsm]; exact c), bP_f (fun z => by omega), if_neg (by decide)]
      · rw [if_neg (by rw [iI_ge0 hsm]; exact c), rd_46 hi, hrs, iI_neg, iI_neg, Int.neg_neg, m_staysIn hD hR hN hs (by omega) (by omega), bd_s]
        by_cases c2 : goes n A B s (-B k) (A k)
        · rw [bP_t c2, if_neg b01t, bP_t ⟨by omega, c2⟩, if_pos rfl, zo_0]
        · rw [bP_f c2, if_pos b01f, bP_f (fun z => c2 z.2), if_neg (by decide)]
    by_cases c : gx * B k + gy * -A k ≤ 0
    · rw [if_pos (by rw [iI_le0 hsm]; exact c), hb65]
      constructor
      · intro h
        rw [bP_t, if_pos rfl]
        apply Classical.byContradiction
        intro z
        exact h ⟨fun w => by omega, fun w g => z ⟨w, g⟩⟩
      · intro h
        rw [bP_f (fun z => h.2 z.1 z.2), if_neg (by decide)]
    · rw [if_neg (by rw [iI_le0 hsm]; exact c), rd_46 hi, hrs, m_staysIn hD hR hN hs (by omega) (by omega), bd_s, hb65]
      by_cases c2 : goes n A B s (B k) (-A k)
      · rw [bP_t c2, if_neg b01t, zo_0]
        exact ⟨fun _ => rfl, fun h => absurd c2 (h.1 (by omega))⟩
      · rw [bP_f c2, if_pos b01f, bP_f (fun z => by omega), if_neg (by decide)]
        exact ⟨fun h => absurd ⟨fun _ => c2, fun w => by omega⟩ h, fun _ => rfl⟩
  rcases loop_find (fun f k => fX3_hasBound_b3 N la lb (nI n) rs (nI i) (iI gx) (iI gy) Kc f (nI k)) (fun k => ¬ ((0 < gx * B k + gy * -A k → ¬ goes n A B s (B k) (-A k)) ∧ (gx * B k + gy * -A k < 0 → ¬ goes n A B s (-B k) (A k)))) (fun _ => some 0) Kc n
    (fun f => by rw [fX3_hasBound_b3.eq_2, fX1_count.eq_1, bd_s, if_pos (nI_le' (by omega) (Nat.le_refl n))])
    (fun f k hk h => (hst k hk f).1 h) (fun f k hk h => (hst k hk f).2 (Classical.not_not.mp h))
    n N 0 (by omega) (by omega) with ⟨k, -, h1, h2, -, h3⟩ | ⟨h1, h2⟩
  · unfold hasB
    rw [bP_f (fun z => h2 (z.2 k h1))]
    exact h3
  · rw [show nI 0 = (0 : Int32) from rfl] at h2
    rw [h2, hKv]
    unfold hasB
    by_cases c : goes n A B s gx gy
    · rw [bP_t c, bP_f (fun z => z.1 c)]; rfl
    · rw [bP_f c, bP_t ⟨c, fun k hk => Classical.not_not.mp (h1 k (Nat.zero_le k) hk)⟩]; rfl
abbrev FB7 : Type := Int32 × Int32 × (Nat → Int32) × (Nat → Int32) × (Nat → Int32) × (Nat → Int32) × Int32
theorem i64 {z : Int} (h : -9223372036854775808 ≤ z ∧ z < 9223372036854775808) : z.bmod (2 ^ 64) = z := Int.bmod_eq_of_le (by omega) (by omega)
theorem lg_le {u v w z : Int} (hu : u.natAbs ≤ 100000) (hv : v.natAbs ≤ 1000) (hw : w.natAbs ≤ 100000) (hz : z.natAbs ≤ 1000) : (lg_cmp (Int32.toInt64 (iI u) * Int32.toInt64 (iI v)) (Int32.toInt64 (iI w) * Int32.toInt64 (iI z)) ≤ 0) ↔ u * v ≤ w * z := by
  have m1 := mb hu hv
  have m2 := mb hw hz
  have e1 : (Int32.toInt64 (iI u) * Int32.toInt64 (iI v)).toInt = u * v := by
    rw [Int64.toInt_mul, Int32.toInt_toInt64, Int32.toInt_toInt64, iI_toInt (sm_of hu), iI_toInt (sm_of hv), i64 (by omega)]
  have e2 : (Int32.toInt64 (iI w) * Int32.toInt64 (iI z)).toInt = w * z := by
    rw [Int64.toInt_mul, Int32.toInt_toInt64, Int32.toInt_toInt64, iI_toInt (sm_of hw), iI_toInt (sm_of hz), i64 (by omega)]
  unfold lg_cmp
  by_cases c : Int32.toInt64 (iI w) * Int32.toInt64 (iI z) < Int32.toInt64 (iI u) * Int32.toInt64 (iI v)
  · rw [if_pos c]
    rw [Int64.lt_iff_toInt_lt, e1, e2] at c
    exact ⟨fun h => absurd h (by decide), fun h => by omega⟩
  · rw [if_neg c]
    rw [Int64.lt_iff_toInt_lt, e1, e2] at c
    refine ⟨fun _ => by omega, fun _ => ?_⟩
    split <;> decide
def goal (gx gy : Int) (X Y : Nat → Int) (m : Nat) : Int := gx * X m + gy * Y m
theorem c_better (hR : LR n A B C) (hM : MSp n A B C K X Y D) (hP : Rp K X Y D mx my md) (hK : K ≤ 36) (N : Nat) {m o : Nat} (hm : m < K) (ho : o < K) {gx gy : Int} (hx : gx.natAbs ≤ 9) (hy : gy.natAbs ≤ 9) : fX2_isBetter N mx my md (nI m) (nI o) (iI gx) (iI gy) = some (b01 (decide (goal gx gy X Y o * D m < goal gx gy X Y m * D o))) := by
  obtain ⟨g1, g2, g3⟩ := hP m hm
  obtain ⟨g4, g5, g6⟩ := hP o ho
  obtain ⟨b1, b2, b3, b4⟩ := RowQ_bd hM hR hm
  obtain ⟨b5, b6, b7, b8⟩ := RowQ_bd hM hR ho
  have m1 := mb hx b1; have m2 := mb hy b2; have m3 := mb hx b5; have m4 := mb hy b6
  have q1 : (goal gx gy X Y m).natAbs ≤ 3000 := by unfold goal; omega
  have q2 : (goal gx gy X Y o).natAbs ≤ 3000 := by unfold goal; omega
  have m5 := mb q1 b7; have m6 := mb q2 b3
  rw [fX2_isBetter.eq_1, rd_36 (by omega), rd_36 (by omega), g1, g2, iI_mul, iI_mul, iI_add, nm_s, rd_36 (by omega), rd_36 (by omega), g4, g5, iI_mul, iI_mul, iI_add, nm_s, rd_36 (by omega), rd_36 (by omega), g6, g3, iI_mul, iI_mul, show gx * X m + gy * Y m = goal gx gy X Y m from rfl, show gx * X o + gy * Y o = goal gx gy X Y o from rfl, zo_0, zo_1]
  by_cases c : goal gx gy X Y m * D o ≤ goal gx gy X Y o * D m
  · rw [if_pos (by rw [iI_le (by unfold sm; omega) (by unfold sm; omega)]; exact c), decide_eq_false (by omega)]; rfl
  · rw [if_neg (by rw [iI_le (by unfold sm; omega) (by unfold sm; omega)]; exact c), decide_eq_true (by omega)]; rfl
end OBE

