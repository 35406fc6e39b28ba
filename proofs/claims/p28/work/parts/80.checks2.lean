/-! ===== the law's checks: galleries, MEETS, mirrors, graph ===== -/
section PCK2
variable {n : Nat} {A B C : Nat → Int} {la lb lc : Nat → Int32} {N : Nat} {K : Nat} {X Y D : Nat → Int} {mx my md mt mv rs rn rw_ : Nat → Int32} {ln mn rk_ : Int32}
theorem nI_sub' {a b : Nat} (h : b ≤ a) : nI a - nI b = nI (a - b) := by
  rw [← iI_nI a, ← iI_nI b, iI_sub, ← iI_nI (a - b)]
  congr 1
  omega
theorem nI_ge0 {a : Nat} (h : a < 2147483648) : (0 : Int32) ≤ nI a := by rw [← iI_nI, iI_ge0 (sm_n h)]; omega
theorem nI_nlt0 {a : Nat} (h : a < 2147483648) : ¬ nI a < 0 := by rw [← iI_nI, iI_lt0 (sm_n h)]; omega
theorem nI_nz0 {a : Nat} (h : a < 2147483648) (h0 : a ≠ 0) : ¬ nI a = 0 := by rw [← iI_nI, iI_eq0 (sm_n h)]; omega
theorem a_gal_chk (h : HS n A B C K X Y D la lb lc ln mx my md mt mv mn rs rn rk_) (hN : 70000 ≤ N) (w0 : Nat → Int32) {a b : Nat} (ha : a < 512) (hb : b < 512) (hpa : rB n A B C a = true) (hpb : rB n A B C b = true) :
    ∃ w', fL_galleries N la lb ln mt mv mn rs rn w0 rk_ (nI (rk (rB n A B C) a)) (nI (rk (rB n A B C) b)) = some (1, w') := by
  obtain ⟨rfl, hD, hR, hU, ⟨rfl, hK, hM, hP, hT, hV⟩, hRN⟩ := h
  have hn := hR.1
  obtain ⟨ra0, -, -, -⟩ := a_room hD hR hN hT hV hK hRN ha hpa
  obtain ⟨rb0, -, -, -⟩ := a_room hD hR hN hT hV hK hRN hb hpb
  obtain ⟨w1, e1⟩ := a_galleries hR hN hRN w0 ha hb hpa hpb
  obtain ⟨w2, e2⟩ := a_galleries hR hN hRN w1 hb ha hpb hpa
  obtain ⟨w3, e3⟩ := a_galleries hR hN hRN w2 ha hb hpa hpb
  have hsame := gal_same ha hb hpa hpb
  obtain ⟨hpos, hbig⟩ := gal_pos hR hU ha hb hpa hpb
  obtain ⟨S, S0, Sm, S1, S2, S3, S4⟩ := a_gallery hR hU hN hRN ha hb hpa hpb
  have hx : a ^^^ b < 512 := Nat.xor_lt_two_pow (n := 9) ha hb
  have hm9 := pc_le (a ^^^ b)
  have rlt : ∀ s, rk (rB n A B C) s < 2147483648 ∨ 512 ≤ s := fun s => by
    rcases Nat.lt_or_ge s 512 with z | z
    · exact Or.inl (Nat.lt_of_le_of_lt (rk_le _ s) (by omega))
    · exact Or.inr z
  refine ⟨w3, ?_⟩
  rw [fL_galleries.eq_1, ra0, bdn_s, rb0, bdn_s, nI_xor, c_size hN hx, bd_s, e1, bdn_s]
  dsimp only
  rw [e2, bdn_s]
  dsimp only
  rw [if_pos (by rw [hsame]), e3, bdn_s]
  dsimp only
  obtain ⟨g, hg⟩ : ∃ g, g = waG (rB n A B C) (pc (a ^^^ b)) a (a ^^^ b) := ⟨_, rfl⟩
  rw [← hg] at hpos hbig ⊢
  obtain ⟨m, hm⟩ : ∃ m, m = pc (a ^^^ b) := ⟨_, rfl⟩
  rw [← hm] at Sm S1 S2 S3 S4 hm9 ⊢
  have h3 := S3 m (Nat.le_refl m)
  rw [Sm] at h3
  rw [if_neg (by rw [show (1 : Int32) = nI 1 from rfl, lt_n (by omega) (by omega)]; omega), h3, bdn_s, if_pos rfl, nI_1, S4, bdn_s, if_pos rfl, fL_galleries_b71.eq_1, ra0, bdn_s]
  have z : fL_galleries_b84 N la lb (nI n) mt mv (nI K) rs rn w3 rk_ (nI (rk (rB n A B C) a)) (nI (rk (rB n A B C) b)) (nI m) N 1 (nI (S (0 - 1))) (nI 0) = some (1, w3) := by
    refine loop_u (fun f j => fL_galleries_b84 N la lb (nI n) mt mv (nI K) rs rn w3 rk_ (nI (rk (rB n A B C) a)) (nI (rk (rB n A B C) b)) (nI m) f 1 (nI (S (j - 1))) (nI j)) (some (1, w3)) (m + 1) (fun f => ?_) (fun f j hj => ?_) (m + 1) N 0 (by omega) (by omega)
    · show fL_galleries_b84 N la lb (nI n) mt mv (nI K) rs rn w3 rk_ (nI (rk (rB n A B C) a)) (nI (rk (rB n A B C) b)) (nI m) (f + 1) 1 (nI (S (m + 1 - 1))) (nI (m + 1)) = some (1, w3)
      rw [fL_galleries_b84.eq_2, if_pos (by rw [lt_n (by omega) (by omega)]; omega), zo_1]
    · show fL_galleries_b84 N la lb (nI n) mt mv (nI K) rs rn w3 rk_ (nI (rk (rB n A B C) a)) (nI (rk (rB n A B C) b)) (nI m) (f + 1) 1 (nI (S (j - 1))) (nI j) = fL_galleries_b84 N la lb (nI n) mt mv (nI K) rs rn w3 rk_ (nI (rk (rB n A B C) a)) (nI (rk (rB n A B C) b)) (nI m) f 1 (nI (S (j + 1 - 1))) (nI (j + 1))
      obtain ⟨q1, q2, q3⟩ := S1 j (by omega)
      obtain ⟨p1, p2, p3⟩ := S1 (j - 1) (by omega)
      obtain ⟨rj0, -, -, -⟩ := a_room hD hR hN hT hV hK hRN q1 q2
      have hrk := rk_le (rB n A B C) (S j)
      have last : ∀ y : Int32, fL_galleries_b146 N la lb (nI n) mt mv (nI K) rs rn rk_ (nI (rk (rB n A B C) b)) (nI m) (nI (S j)) (nI j) y y (fun x4 x5 x6 => fL_galleries_b84 N la lb (nI n) mt mv (nI K) rs rn w3 rk_ (nI (rk (rB n A B C) a)) (nI (rk (rB n A B C) b)) (nI m) f x4 x5 x6) = fL_galleries_b84 N la lb (nI n) mt mv (nI K) rs rn w3 rk_ (nI (rk (rB n A B C) a)) (nI (rk (rB n A B C) b)) (nI m) f 1 (nI (S j)) (nI (j + 1)) := by
        intro y
        rw [fL_galleries_b146.eq_1, if_pos rfl, rb0, bdn_s, nI_xor, c_size hN (Nat.xor_lt_two_pow (n := 9) q1 hb), bd_s, q3, if_pos (nI_sub' (by omega)).symm, nI_1]
      rw [fL_galleries_b84.eq_2, if_neg (by rw [lt_n (by omega) (by omega)]; omega), if_neg one_ne0, S3 j (by omega), bdn_s, if_pos (nI_ge0 (by omega)), rj0, bdn_s, fL_galleries_b121.eq_1, if_neg (nI_nlt0 (by omega)), nI_xor, c_size hN (Nat.xor_lt_two_pow (n := 9) p1 q1), bd_s, show j + 1 - 1 = j from rfl]
      by_cases c : j = 0
      · subst c
        rw [if_pos (show nI 0 = 0 from rfl), show (0 - 1 : Nat) = 0 from rfl, Nat.xor_self, show pc 0 = 0 from by decide +kernel]
        exact last 0
      · have h1 := S2 (j - 1) (by omega)
        rw [show j - 1 + 1 = j by omega] at h1
        rw [if_neg (nI_nz0 (by omega) c), h1]
        exact last 1
  rw [show (0 - 1 : Nat) = 0 from rfl, S0] at z
  exact z
theorem lg_vals {u v w z : Int} (hu : u.natAbs ≤ 100000) (hv : v.natAbs ≤ 1000) (hw : w.natAbs ≤ 100000) (hz : z.natAbs ≤ 1000) : (0 ≤ lg_cmp (Int32.toInt64 (iI u) * Int32.toInt64 (iI v)) (Int32.toInt64 (iI w) * Int32.toInt64 (iI z))) ↔ w * z ≤ u * v := by
  have m1 := mb hu hv
  have m2 := mb hw hz
  have e1 : (Int32.toInt64 (iI u) * Int32.toInt64 (iI v)).toInt = u * v := by
    rw [Int64.toInt_mul, Int32.toInt_toInt64, Int32.toInt_toInt64, iI_toInt (sm_of hu), iI_toInt (sm_of hv), i64 (by omega)]
  have e2 : (Int32.toInt64 (iI w) * Int32.toInt64 (iI z)).toInt = w * z := by
    rw [Int64.toInt_mul, Int32.toInt_toInt64, Int32.toInt_toInt64, iI_toInt (sm_of hw), iI_toInt (sm_of hz), i64 (by omega)]
  rw [lg_cmp_ge, Int64.le_iff_toInt_le, e1, e2]
theorem lg_npos {u v w z : Int} (hu : u.natAbs ≤ 100000) (hv : v.natAbs ≤ 1000) (hw : w.natAbs ≤ 100000) (hz : z.natAbs ≤ 1000) (h : u * v ≤ w * z) : ¬ (0 < lg_cmp (Int32.toInt64 (iI u) * Int32.toInt64 (iI v)) (Int32.toInt64 (iI w) * Int32.toInt64 (iI z))) := by
  have h1 := (lg_le hu hv hw hz).mpr h
  rw [Int32.le_iff_toInt_le] at h1
  rw [Int32.lt_iff_toInt_lt]
  omega
theorem goal_sm (hR : LR n A B C) (hM : MSp n A B C K X Y D) {m : Nat} (hm : m < K) {gx gy : Int} (hx : gx.natAbs ≤ 9) (hy : gy.natAbs ≤ 9) : (goal gx gy X Y m).natAbs ≤ 100000 ∧ (D m).natAbs ≤ 1000 := by
  obtain ⟨b1, b2, b3, b4⟩ := RowQ_bd hM hR hm
  have m1 := mb hx b1
  have m2 := mb hy b2
  unfold goal
  omega
theorem pc_meet (hn : n ≤ 9) (hM : MSp n A B C K X Y D) {m : Nat} (hm : m < K) : 2 ≤ pc (thrS n A B C (X m) (Y m) (D m)) := by
  obtain ⟨-, a, b, -, hat⟩ := hM.1 m hm
  obtain ⟨h1, h2, h3, h4, h5⟩ := hat
  unfold thrS
  rw [pc_n hn]
  have hab : a ≠ b := by
    intro e
    subst e
    apply h3
    unfold cr
    omega
  rcases Nat.lt_or_ge a b with c | c
  · have t1 := rk_lt (p := fun l => decide (ht A B C l (X m) (Y m) (D m) = 0)) c (decide_eq_true h4)
    have t2 := rk_lt (p := fun l => decide (ht A B C l (X m) (Y m) (D m) = 0)) h2 (decide_eq_true h5)
    omega
  · have t1 := rk_lt (p := fun l => decide (ht A B C l (X m) (Y m) (D m) = 0)) (show b < a by omega) (decide_eq_true h5)
    have t2 := rk_lt (p := fun l => decide (ht A B C l (X m) (Y m) (D m) = 0)) h1 (decide_eq_true h4)
    omega
theorem or_b0 (b : Bool) : b01 b ||| 0 = b01 b := by cases b <;> decide
theorem or_b1 (b : Bool) : b01 b ||| 1 = 1 := by cases b <;> decide
theorem dec_s {r j : Nat} (h : j ≠ r) : decide (r < j + 1) = decide (r < j) := by
  rw [Bool.eq_iff_iff, decide_eq_true_eq, decide_eq_true_eq]
  omega
/-- the corners of a ROOM, one by one: is the MEET one of them -/
theorem t76 (hR : LR n A B C) (hN : 70000 ≤ N) (hT : Tp K (fun j => thrS n A B C (X j) (Y j) (D j)) mt) (hV : Tp K (fun j => abvS n A B C (X j) (Y j) (D j)) mv) (hK : K ≤ 36) (hRN : RN n A B C rs rn rk_) {P : Nat} (hP9 : P < 512) (hPp : rB n A B C P = true) {m : Nat} (hm : m < K) (hcm : corN n A B C X Y D P m = true) (k : Int32 → Option Int32) :
    fL_meets_b76 N mt mv (nI K) rs rk_ (nI m) (nI (rk (rB n A B C) P)) (nI (rk (corN n A B C X Y D P) K)) k N 0 0 = k 1 := by
  have hrm := rk_lt (p := corN n A B C X Y D P) hm hcm
  have hcP := Nat.le_trans (rk_le (corN n A B C X Y D P) K) hK
  have z : fL_meets_b76 N mt mv (nI K) rs rk_ (nI m) (nI (rk (rB n A B C) P)) (nI (rk (corN n A B C X Y D P) K)) k N (b01 (decide (rk (corN n A B C X Y D P) m < 0))) (nI 0) = k 1 := by
    refine loop_u (fun f j => fL_meets_b76 N mt mv (nI K) rs rk_ (nI m) (nI (rk (rB n A B C) P)) (nI (rk (corN n A B C X Y D P) K)) k f (b01 (decide (rk (corN n A B C X Y D P) m < j))) (nI j)) (k 1) (rk (corN n A B C X Y D P) K) (fun f => ?_) (fun f j hj => ?_) _ N 0 (Nat.zero_add _) (by omega)
    · show fL_meets_b76 N mt mv (nI K) rs rk_ (nI m) (nI (rk (rB n A B C) P)) (nI (rk (corN n A B C X Y D P) K)) k (f + 1) (b01 (decide (rk (corN n A B C X Y D P) m < rk (corN n A B C X Y D P) K))) (nI (rk (corN n A B C X Y D P) K)) = k 1
      rw [fL_meets_b76.eq_2, if_pos (nI_le' (by omega) (Nat.le_refl _)), decide_eq_true hrm]
      rfl
    · show fL_meets_b76 N mt mv (nI K) rs rk_ (nI m) (nI (rk (rB n A B C) P)) (nI (rk (corN n A B C X Y D P) K)) k (f + 1) (b01 (decide (rk (corN n A B C X Y D P) m < j))) (nI j) = fL_meets_b76 N mt mv (nI K) rs rk_ (nI m) (nI (rk (rB n A B C) P)) (nI (rk (corN n A B C X Y D P) K)) k f (b01 (decide (rk (corN n A B C X Y D P) m < j + 1))) (nI (j + 1))
      obtain ⟨i, hi, hci, hri⟩ := rk_ex (p := corN n A B C X Y D P) hj
      have hcor := (a_corner hR hN hT hV hK hRN hP9 hPp (t := j) (by omega)).2 i hi hci hri
      rw [fL_meets_b76.eq_2, if_neg (nI_nle' (by omega) hj), hcor, bdn_s, nI_1]
      by_cases c : i = m
      · subst c
        rw [if_pos rfl, or_b1, hri, decide_eq_true (Nat.lt_succ_self j)]
        rfl
      · rw [if_neg (by rw [nI_eq (by omega) (by omega)]; exact c), or_b0, dec_s (fun z => c (rk_inj hci hcm (hri.trans z)))]
  rw [decide_eq_false (Nat.not_lt_zero _)] at z
  exact z
/-- the corners of a ROOM, one by one, beside the best one -/
theorem t195 (hR : LR n A B C) (hN : 70000 ≤ N) (hM : MSp n A B C K X Y D) (hP : Rp K X Y D mx my md) (hT : Tp K (fun j => thrS n A B C (X j) (Y j) (D j)) mt) (hV : Tp K (fun j => abvS n A B C (X j) (Y j) (D j)) mv) (hK : K ≤ 36) (hRN : RN n A B C rs rn rk_) {s : Nat} (hs : s < 512) (hp : rB n A B C s = true) {gx gy : Int} (hx : gx.natAbs ≤ 9) (hy : gy.natAbs ≤ 9) {o : Nat} (ho : o < K) (hco : corN n A B C X Y D s o = true) (hopt : ∀ i, i < K → corN n A B C X Y D s i = true → goal gx gy X Y i * D o ≤ goal gx gy X Y o * D i ∧ (o ≤ i ∨ goal gx gy X Y i * D o < goal gx gy X Y o * D i)) (k : Int32 → Int32 → Option Int32) :
    fL_meets_b195 N mx my md mt mv (nI K) rs rk_ (nI (rk (rB n A B C) s)) (iI gx) (iI gy) (nI o) (Int32.toInt64 (iI (goal gx gy X Y o))) (Int32.toInt64 (iI (D o))) (nI (rk (corN n A B C X Y D s) K)) k N 1 0 0 = k 1 1 := by
  have hro := rk_lt (p := corN n A B C X Y D s) ho hco
  have hcS := Nat.le_trans (rk_le (corN n A B C X Y D s) K) hK
  obtain ⟨g1, g2⟩ := goal_sm hR hM ho hx hy
  have h11 : (1 : Int32) &&& 1 = 1 := by decide
  have z : fL_meets_b195 N mx my md mt mv (nI K) rs rk_ (nI (rk (rB n A B C) s)) (iI gx) (iI gy) (nI o) (Int32.toInt64 (iI (goal gx gy X Y o))) (Int32.toInt64 (iI (D o))) (nI (rk (corN n A B C X Y D s) K)) k N 1 (b01 (decide (rk (corN n A B C X Y D s) o < 0))) (nI 0) = k 1 1 := by
    refine loop_u (fun f j => fL_meets_b195 N mx my md mt mv (nI K) rs rk_ (nI (rk (rB n A B C) s)) (iI gx) (iI gy) (nI o) (Int32.toInt64 (iI (goal gx gy X Y o))) (Int32.toInt64 (iI (D o))) (nI (rk (corN n A B C X Y D s) K)) k f 1 (b01 (decide (rk (corN n A B C X Y D s) o < j))) (nI j)) (k 1 1) (rk (corN n A B C X Y D s) K) (fun f => ?_) (fun f j hj => ?_) _ N 0 (Nat.zero_add _) (by omega)
    · show fL_meets_b195 N mx my md mt mv (nI K) rs rk_ (nI (rk (rB n A B C) s)) (iI gx) (iI gy) (nI o) (Int32.toInt64 (iI (goal gx gy X Y o))) (Int32.toInt64 (iI (D o))) (nI (rk (corN n A B C X Y D s) K)) k (f + 1) 1 (b01 (decide (rk (corN n A B C X Y D s) o < rk (corN n A B C X Y D s) K))) (nI (rk (corN n A B C X Y D s) K)) = k 1 1
      rw [fL_meets_b195.eq_2, if_pos (nI_le' (by omega) (Nat.le_refl _)), decide_eq_true hro]
      rfl
    · show fL_meets_b195 N mx my md mt mv (nI K) rs rk_ (nI (rk (rB n A B C) s)) (iI gx) (iI gy) (nI o) (Int32.toInt64 (iI (goal gx gy X Y o))) (Int32.toInt64 (iI (D o))) (nI (rk (corN n A B C X Y D s) K)) k (f + 1) 1 (b01 (decide (rk (corN n A B C X Y D s) o < j))) (nI j) = fL_meets_b195 N mx my md mt mv (nI K) rs rk_ (nI (rk (rB n A B C) s)) (iI gx) (iI gy) (nI o) (Int32.toInt64 (iI (goal gx gy X Y o))) (Int32.toInt64 (iI (D o))) (nI (rk (corN n A B C X Y D s) K)) k f 1 (b01 (decide (rk (corN n A B C X Y D s) o < j + 1))) (nI (j + 1))
      obtain ⟨i, hi, hci, hri⟩ := rk_ex (p := corN n A B C X Y D s) hj
      have hcor := (a_corner hR hN hT hV hK hRN hs hp (t := j) (by omega)).2 i hi hci hri
      obtain ⟨i0, i1, i2, -⟩ := a_meet hP hT hK N hi
      obtain ⟨f1, f2⟩ := goal_sm hR hM hi hx hy
      obtain ⟨o1, o2⟩ := hopt i hi hci
      have hlast : fL_meets_b293 N (nI o) (nI i) (b01 (decide (rk (corN n A B C X Y D s) o < j))) (nI j) 1 1 (fun x7 x16 x17 => fL_meets_b195 N mx my md mt mv (nI K) rs rk_ (nI (rk (rB n A B C) s)) (iI gx) (iI gy) (nI o) (Int32.toInt64 (iI (goal gx gy X Y o))) (Int32.toInt64 (iI (D o))) (nI (rk (corN n A B C X Y D s) K)) k f x7 x16 x17) = fL_meets_b195 N mx my md mt mv (nI K) rs rk_ (nI (rk (rB n A B C) s)) (iI gx) (iI gy) (nI o) (Int32.toInt64 (iI (goal gx gy X Y o))) (Int32.toInt64 (iI (D o))) (nI (rk (corN n A B C X Y D s) K)) k f 1 (b01 (decide (rk (corN n A B C X Y D s) o < j + 1))) (nI (j + 1)) := by
        rw [fL_meets_b293.eq_1, nI_1, h11]
        by_cases c : i = o
        · subst c
          rw [if_pos rfl, or_b1, hri, decide_eq_true (Nat.lt_succ_self j)]
          rfl
        · rw [if_neg (by rw [nI_eq (by omega) (by omega)]; exact c), or_b0, dec_s (fun z => c (rk_inj hci hco (hri.trans z)))]
      have e0 : iI gx * iI (X i) + iI gy * iI (Y i) = iI (goal gx gy X Y i) := by rw [iI_mul, iI_mul, iI_add]; rfl
      rw [fL_meets_b195.eq_2, if_neg (nI_nle' (by omega) hj), if_neg (nI_nlt0 (by omega)), hcor, bdn_s, i0, bdn_s, i1, bdn_s, nm_s, e0, i2, bdn_s, if_neg (lg_npos f1 g2 g1 f2 o1)]
      by_cases c : o ≤ i
      · rw [if_pos (nI_le' (by omega) c)]
        exact hlast
      · rw [if_neg (nI_nle' (by omega) (by omega)), bdn_s, if_neg (by rw [lg_vals f1 g2 g1 f2]; rcases o2 with z | z <;> omega)]
        exact hlast
  rw [decide_eq_false (Nat.not_lt_zero _)] at z
  exact z
theorem a_meets_chk (h : HS n A B C K X Y D la lb lc ln mx my md mt mv mn rs rn rk_) (hN : 70000 ≤ N) {s : Nat} (hs : s < 512) (hp : rB n A B C s = true) {m : Nat} (hm : m < K) {gx gy : Int} (hx : gx.natAbs ≤ 9) (hy : gy.natAbs ≤ 9) (hab : ¬ (gx = 0 ∧ gy = 0)) :
    fL_meets N la lb ln mx my md mt mv mn rs rn rk_ (nI (rk (rB n A B C) s)) (nI m) (iI gx) (iI gy) = some 1 := by
  obtain ⟨rfl, hD, hR, hU, ⟨rfl, hK, hM, hP, hT, hV⟩, hRN⟩ := h
  have hn := hR.1
  have hN0 := LR_n0 hR
  have hNP : NP n A B := (K_NP hM).mp (by omega)
  have hreal : Real n A B C s := rB_t.mp hp
  obtain ⟨r0, r1, -, r3⟩ := a_room hD hR hN hT hV hK hRN hs hp
  obtain ⟨-, -, e2, e3⟩ := a_meet hP hT hK N hm
  obtain ⟨hP9, hPp, hprj⟩ := a_project hR hM hT hV hK hRN N hs hp hm
  obtain ⟨own1, own2⟩ := prj_own (real_lt hreal) (X m) (Y m) (D m)
  obtain ⟨-, -, bD, pD⟩ := RowQ_bd hM hR hm
  have hT9 := thrS_lt (A := A) (B := B) (C := C) hn (X m) (Y m) (D m)
  have hpc := pc_meet hn hM hm
  have hpc9 := pc_le (thrS n A B C (X m) (Y m) (D m))
  have hP2 : prj n A B C s (X m) (Y m) (D m) < 2 ^ n := real_lt (rB_t.mp hPp)
  have hand : (prj n A B C s (X m) (Y m) (D m) ^^^ s) &&& thrS n A B C (X m) (Y m) (D m) = 0 := by
    apply Nat.eq_of_testBit_eq
    intro k
    rw [Nat.testBit_and, Nat.testBit_xor, Nat.zero_testBit]
    cases hk : (thrS n A B C (X m) (Y m) (D m)).testBit k with
    | false => rw [Bool.and_false]
    | true =>
      obtain ⟨k1, k2⟩ := (thrS_t _ _ _ _).mp hk
      rw [own2 k k1 k2, Bool.xor_self]
      rfl
  obtain ⟨P, hPd⟩ : ∃ P, P = prj n A B C s (X m) (Y m) (D m) := ⟨_, rfl⟩
  rw [← hPd] at hP9 hPp hprj own1 own2 hP2 hand
  obtain ⟨t0, -, -, t3⟩ := a_room hD hR hN hT hV hK hRN hP9 hPp
  have hcP := Nat.le_trans (rk_le (corN n A B C X Y D P) K) hK
  have hcS := Nat.le_trans (rk_le (corN n A B C X Y D s) K) hK
  -- what comes behind the best corner
  have b170 : ∀ (best : Int32) (top by_ : Int64), ((best = -1 ∧ bdd n A B s = false) ∨ ∃ o, o < K ∧ corN n A B C X Y D s o = true ∧ best = nI o ∧ top = Int32.toInt64 (iI (goal gx gy X Y o)) ∧ by_ = Int32.toInt64 (iI (D o)) ∧ ∀ i, i < K → corN n A B C X Y D s i = true → goal gx gy X Y i * D o ≤ goal gx gy X Y o * D i ∧ (o ≤ i ∨ goal gx gy X Y i * D o < goal gx gy X Y o * D i)) →
      fL_meets_b170 N la lb (nI n) mx my md mt mv (nI K) rs rn rk_ (nI (rk (rB n A B C) s)) (iI gx) (iI gy) 1 best top 1 by_ = some 1 := by
    intro best top by_ hbest
    rw [fL_meets_b170.eq_1, r3, bdn_s]
    rcases hbest with ⟨rfl, hbd⟩ | ⟨o, ho, hco, rfl, rfl, rfl, hopt⟩
    · rw [if_neg (by decide)]
      obtain ⟨N', rfl⟩ : ∃ N', N = N' + 1 := ⟨N - 1, by omega⟩
      have fin : (if (1 : Int32) = 0 then zo 0 (some 0) else if (1 : Int32) = 0 then zo 0 (some 0) else if (1 : Int32) = 0 then zo 0 (some 0) else if (0 : Int32) ≤ -1 then zo 1 (some 1) else bdn (fX4_room (N' + 1) la lb (nI n) mt mv (nI K) rs rn rk_ (nI (rk (rB n A B C) s)) 1) (fun u_971 => if u_971 = 0 then zo 1 (some 1) else zo 0 (some 0))) = some (1 : Int32) := by
        rw [if_neg one_ne0, if_neg one_ne0, if_neg one_ne0, if_neg (by decide), r1, bdn_s, hbd, if_pos b01f, zo_1]
      rw [fL_meets_b195.eq_2]
      by_cases c : nI (rk (corN n A B C X Y D s) K) ≤ 0
      · rw [if_pos c]; exact fin
      · rw [if_neg c, if_pos (by decide)]; exact fin
    · rw [if_pos (nI_ge0 (by omega)), t195 hR hN hM hP hT hV hK hRN hs hp hx hy ho hco hopt]
      rw [if_neg one_ne0, if_neg one_ne0, if_neg one_ne0, if_pos (nI_ge0 (by omega)), zo_1]
  have b151 : ∀ o, o < K → corN n A B C X Y D s o = true → (∀ i, i < K → corN n A B C X Y D s i = true → goal gx gy X Y i * D o ≤ goal gx gy X Y o * D i ∧ (o ≤ i ∨ goal gx gy X Y i * D o < goal gx gy X Y o * D i)) → fL_meets_b151 N la lb (nI n) mx my md mt mv (nI K) rs rn rk_ (nI (rk (rB n A B C) s)) (iI gx) (iI gy) 1 (nI o) 1 (Int32.toInt64 (iI gx * iI (X o) + iI gy * iI (Y o))) = some 1 := by
    intro o ho hco hopt
    obtain ⟨-, -, o2, -⟩ := a_meet hP hT hK N ho
    have e0 : iI gx * iI (X o) + iI gy * iI (Y o) = iI (goal gx gy X Y o) := by rw [iI_mul, iI_mul, iI_add]; rfl
    rw [fL_meets_b151.eq_1, if_pos (nI_ge0 (by omega)), o2, bdn_s, e0]
    exact b170 _ _ _ (Or.inr ⟨o, ho, hco, rfl, rfl, rfl, hopt⟩)
  have b59 : fL_meets_b59 N la lb (nI n) mx my md mt mv (nI K) rs rn rk_ (nI (rk (rB n A B C) s)) (nI m) (iI gx) (iI gy) (nI (rk (rB n A B C) P)) 1 = some 1 := by
    rw [fL_meets_b59.eq_1, t3, bdn_s]
    have hcm : corN n A B C X Y D P m = true := own1
    rw [t76 hR hN hT hV hK hRN hP9 hPp hm hcm]
    rcases a_best hD hR hN hM hP hT hV hK hRN hs hp hx hy hab with ⟨e, hno⟩ | ⟨o, ho, hco, e, hopt⟩
    · have hbd : bdd n A B s = false := by
        cases hb : bdd n A B s with
        | false => rfl
        | true =>
          exfalso
          rcases hno with z | z
          · rw [bdd_has hN0 hb hab] at z
            exact absurd z (by decide)
          · have h0 := (room_walls hn hN0 hU hM hNP hreal).1
            rw [rk_none (p := corN n A B C X Y D s) (m := K) (fun i hi => z i hi)] at h0
            omega
      rw [e, bdn_s, if_neg (by decide), fL_meets_b151.eq_1, if_neg (by decide)]
      exact b170 _ _ _ (Or.inl ⟨rfl, hbd⟩)
    · obtain ⟨o0, o1, -, -⟩ := a_meet hP hT hK N ho
      rw [e, bdn_s, if_pos (nI_ge0 (by omega)), o0, bdn_s, o1, bdn_s]
      exact b151 o ho hco hopt
  rw [fL_meets.eq_1, e3, bdn_s, hprj, bdn_s, e2, bdn_s, if_neg (by rw [iI_le0 (sm_of bD)]; omega), c_size hN hT9, bd_s, if_neg (by rw [show (1 : Int32) = nI 1 from rfl, le_n (by omega) (by omega)]; omega), t0, bdn_s, r0, bdn_s, nI_xor, nI_and, if_pos (by rw [hand]; rfl)]
  exact b59
theorem a_mirr_chk (h : HS n A B C K X Y D la lb lc ln mx my md mt mv mn rs rn rk_) (hN : 70000 ≤ N) : fL_mirrors N la lb lc ln (nI n) = some 1 := by
  obtain ⟨rfl, hD, hR, hU, -, -⟩ := h
  have hn := hR.1
  obtain ⟨w, hw, hkal⟩ := a_kal hD hR hU hN
  have hval : ∀ l m, l < n → m < n → (w l m = -1 ∧ l ≠ m) ∨ ∃ k, k < n ∧ w l m = nI k ∧ w k m = nI l ∧ (l = m → k = l) := by
    intro l m hl hm
    rcases a_mirr hD hR hU hN hl hm with ⟨e, hno⟩ | ⟨k, hk, e, hsm⟩
    · left
      rw [hw l m hl hm] at e
      refine ⟨Option.some.inj e, fun z => ?_⟩
      subst z
      exact hno l hl ((refl_own hU hR hl hl).mpr rfl)
    · right
      rw [hw l m hl hm] at e
      refine ⟨k, hk, Option.some.inj e, ?_, ?_⟩
      · rcases a_mirr hD hR hU hN hk hm with ⟨e', hno'⟩ | ⟨i, hi, e', hsm'⟩
        · exact absurd ((refl_again hR hU hl hm hk hsm (i := l) hl).mpr rfl) (hno' l hl)
        · rw [hw k m hk hm] at e'
          rw [Option.some.inj e', (refl_again hR hU hl hm hk hsm hi).mp hsm']
      · intro z
        subst z
        exact (refl_own hU hR hl hk).mp hsm
  obtain ⟨al, hal⟩ : ∃ al : Nat → Bool, al = fun l => bP (∀ l', l' < l → ∀ m, m < n → w l' m ≠ -1) := ⟨_, rfl⟩
  obtain ⟨ro, hro⟩ : ∃ ro : Nat → Nat → Bool, ro = fun l m => bP (∀ m', m' < m → w l m' ≠ -1) := ⟨_, rfl⟩
  have h0 : b01 (al 0) = 1 := by
    rw [hal]
    show b01 (bP _) = 1
    rw [bP_t (fun l' hl' => absurd hl' (Nat.not_lt_zero _))]
    rfl
  have h11 : (1 : Int32) &&& 1 = 1 := by decide
  -- a row of mirrors
  have row : ∀ i, i < n → ∀ kc : Int32 → Int32 → Option Int32, fL_mirrors_b16 N la lb lc (nI n) (nI n) (nI i) kc N (b01 (al i)) 1 0 = kc (b01 (al (i + 1))) 1 := by
    intro i hi kc
    have hend : al (i + 1) = (al i && ro i n) := by
      rw [hal, hro, Bool.eq_iff_iff, Bool.and_eq_true]
      show bP _ = true ↔ bP _ = true ∧ bP _ = true
      rw [bP_iff, bP_iff, bP_iff]
      constructor
      · intro z
        exact ⟨fun l' hl' m hm => z l' (by omega) m hm, fun m hm => z i (by omega) m hm⟩
      · rintro ⟨z1, z2⟩ l' hl' m hm
        by_cases c : l' = i
        · subst c; exact z2 m hm
        · exact z1 l' (by omega) m hm
    have hst : (al i && ro i 0) = al i := by
      have : ro i 0 = true := by
        rw [hro]
        show bP _ = true
        exact bP_t (fun m' hm' => absurd hm' (Nat.not_lt_zero _))
      rw [this, Bool.and_true]
    have z : fL_mirrors_b16 N la lb lc (nI n) (nI n) (nI i) kc N (b01 (al i && ro i 0)) 1 (nI 0) = kc (b01 (al i && ro i n)) 1 := by
      refine loop_u (fun f j => fL_mirrors_b16 N la lb lc (nI n) (nI n) (nI i) kc f (b01 (al i && ro i j)) 1 (nI j)) (kc (b01 (al i && ro i n)) 1) n (fun f => ?_) (fun f j hj => ?_) n N 0 (Nat.zero_add _) (by omega)
      · show fL_mirrors_b16 N la lb lc (nI n) (nI n) (nI i) kc (f + 1) (b01 (al i && ro i n)) 1 (nI n) = _
        rw [fL_mirrors_b16.eq_2, if_pos (nI_le' (by omega) (Nat.le_refl n))]
      · show fL_mirrors_b16 N la lb lc (nI n) (nI n) (nI i) kc (f + 1) (b01 (al i && ro i j)) 1 (nI j) = fL_mirrors_b16 N la lb lc (nI n) (nI n) (nI i) kc f (b01 (al i && ro i (j + 1))) 1 (nI (j + 1))
        have hrs : ro i (j + 1) = (ro i j && decide (w i j ≠ -1)) := by
          rw [hro, Bool.eq_iff_iff, Bool.and_eq_true, decide_eq_true_eq]
          show bP _ = true ↔ bP _ = true ∧ _
          rw [bP_iff, bP_iff]
          constructor
          · intro z
            exact ⟨fun m' hm' => z m' (by omega), z j (by omega)⟩
          · rintro ⟨z1, z2⟩ m' hm'
            by_cases c : m' = j
            · subst c; exact z2
            · exact z1 m' (by omega)
        have h2 : ∀ b : Bool, b01 b &&& 1 = b01 b := fun b => by cases b <;> decide
        have h3 : ∀ b : Bool, b01 b &&& 0 = b01 false := fun b => by cases b <;> decide
        rw [fL_mirrors_b16.eq_2, if_neg (nI_nle' (by omega) hj), a_refl hD hR hi hj (hw i j hi hj), bdn_s, hrs]
        rcases hval i j hi hj with ⟨e, hne⟩ | ⟨k, hk, e, e2, hown⟩
        · rw [e, if_pos (by decide), fL_mirrors_b43.eq_1, if_pos (by decide), fL_mirrors_b69.eq_1, if_neg (by rw [nI_eq (by omega) (by omega)]; exact hne), h11, h11, nI_1, h3, decide_eq_false (fun z => z rfl), Bool.and_false, Bool.and_false]
        · have hd : decide (w i j ≠ -1) = true := decide_eq_true (by rw [e]; exact nI_ne_m1 (by omega))
          rw [hd, Bool.and_true, e, if_neg (nI_nlt0 (by omega)), fL_mirrors_b43.eq_1, if_neg (nI_nlt0 (by omega)), a_refl hD hR hk hj (hw k j hk hj), bdn_s, e2, if_pos rfl, fL_mirrors_b69.eq_1, h11, h11, nI_1, h2]
          by_cases c : i = j
          · rw [if_pos (by rw [c]), if_pos (by rw [hown c])]
          · rw [if_neg (by rw [nI_eq (by omega) (by omega)]; exact c)]
    rw [hst, ← hend] at z
    exact z
  have all : ∀ k9 : Int32 → Int32 → Option Int32, fL_mirrors_b7 N la lb lc (nI n) (nI n) k9 N 1 1 0 = k9 (b01 (al n)) 1 := by
    intro k9
    have z : fL_mirrors_b7 N la lb lc (nI n) (nI n) k9 N (b01 (al 0)) 1 (nI 0) = k9 (b01 (al n)) 1 := by
      refine loop_u (fun f i => fL_mirrors_b7 N la lb lc (nI n) (nI n) k9 f (b01 (al i)) 1 (nI i)) (k9 (b01 (al n)) 1) n (fun f => ?_) (fun f i hi => ?_) n N 0 (Nat.zero_add _) (by omega)
      · show fL_mirrors_b7 N la lb lc (nI n) (nI n) k9 (f + 1) (b01 (al n)) 1 (nI n) = _
        rw [fL_mirrors_b7.eq_2, if_pos (nI_le' (by omega) (Nat.le_refl n))]
      · show fL_mirrors_b7 N la lb lc (nI n) (nI n) k9 (f + 1) (b01 (al i)) 1 (nI i) = fL_mirrors_b7 N la lb lc (nI n) (nI n) k9 f (b01 (al (i + 1))) 1 (nI (i + 1))
        rw [fL_mirrors_b7.eq_2, if_neg (nI_nle' (by omega) hi), row i hi, nI_1]
    rw [h0] at z
    exact z
  rw [fL_mirrors.eq_1, all, if_neg one_ne0, hkal, bd_s, hal, if_pos rfl, zo_1]
theorem a_graph_chk (hN : 70000 ≤ N) {g : Nat} (hs : Sy g) : fL_graph N (lN g) = some 1 := by
  obtain ⟨c, hc⟩ : ∃ c : Nat → Nat, c = fun k => cc k g 6 0 (fun _ => 0) := ⟨_, rfl⟩
  have e0 : ∀ k, k ≤ 6 → fX4_colourings N (lN g) (nI k) = some (.inr (nI (c k))) := fun k hk => by rw [hc]; exact a_col hN hs hk
  have e1 : ∀ k, k ≤ 6 → 0 < k → fX4_colouringsAnew N (lN g) (nI k) = some (.inr (nI (c k))) := fun k hk h0 => by rw [hc]; exact a_colA hN hs hk h0
  have c0 : c 0 = 0 := by
    rw [hc]
    show cc 0 g 6 0 (fun _ => 0) = 0
    rw [cc_s]
    rfl
  have cm : ∀ k, c k ≤ c (k + 1) := fun k => by rw [hc]; exact cc_mono k g hs
  have cb : ∀ k, k ≤ 6 → c k ≤ 46656 := fun k hk => by
    rw [hc]
    exact Nat.le_trans (cc_le k g 6 0 _) (Nat.le_trans (Nat.pow_le_pow_left hk 6) (by decide))
  have step : ∀ f k, 0 < k → k < 4 → fL_graph_b27 N (lN g) (f + 1) 1 (nI k) = fL_graph_b27 N (lN g) f 1 (nI (k + 1)) := by
    intro f k hk hk4
    have b1 := cb k (by omega)
    have b2 := cb (k - 1) (by omega)
    have hmo := cm (k - 1)
    rw [show k - 1 + 1 = k by omega] at hmo
    rw [fL_graph_b27.eq_2, if_neg (by rw [show (4 : Int32) = nI 4 from rfl, le_n (by omega) (by omega)]; omega), e0 k (by omega), bdn_s, e1 k (by omega) hk, bdn_s, if_pos rfl, bdn_s, nI_m1 k hk, e0 (k - 1) (by omega), bdn_s, if_neg (by rw [lt_n (by omega) (by omega)]; omega), nI_1]
    rfl
  have fin : ∀ f, fL_graph_b27 N (lN g) (f + 1) 1 (nI 4) = some 1 := by
    intro f
    rw [fL_graph_b27.eq_2, if_pos (by decide), zo_1]
  obtain ⟨N', hN'⟩ : ∃ N', N = N' + 1 + 1 + 1 + 1 := ⟨N - 4, by omega⟩
  have e00 := e0 0 (by omega)
  rw [c0] at e00
  have e00' : fX4_colourings N (lN g) 0 = some (.inr (nI 0)) := e00
  rw [fL_graph.eq_1, a_dir hN hs, bd_s, a_dirA hN hs, bd_s, if_pos rfl, e00', bdn_s, if_pos (show nI 0 = 0 from rfl)]
  have t1 := step (N' + 1 + 1 + 1) 1 (by omega) (by omega)
  have t2 := step (N' + 1 + 1) 2 (by omega) (by omega)
  have t3 := step (N' + 1) 3 (by omega) (by omega)
  have t4 := fin N'
  rw [← hN'] at t1
  exact t1.trans (t2.trans (t3.trans t4))
end PCK2
