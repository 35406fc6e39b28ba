/-! ===== points, reflected, isKaleidoscope, pairs, pair ===== -/
section OB
variable {n : Nat} {A B C : Nat → Int} {la lb lc da db dc : Nat → Int32} {N : Nat} {K : Nat} {X Y D : Nat → Int} {mx my md mt : Nat → Int32}
noncomputable def over (n : Nat) (A B C : Nat → Int) (p x y : Nat) : Bool := bP (∃ k, k < n ∧ (ht A B C k x y 1).tmod p = 0)
theorem ht_sm2 (hR : LR n A B C) {k : Nat} (hk : k < n) {x y : Nat} (hx : x ≤ 100) (hy : y ≤ 100) : sm (ht A B C k x y 1) := ht_sm hR hk (by omega) (by omega) (by omega)
theorem c_over (hD : LD n A B C la lb lc) (hR : LR n A B C) (hN : 70000 ≤ N) {p x y : Nat} (hp : 0 < p) (hp2 : p ≤ 100) (hx : x ≤ 100) (hy : y ≤ 100) : fX1_isAnyOver N la lb lc (nI n) (nI p) (nI x) (nI y) = some (b01 (over n A B C p x y)) := by
  have hn := hR.1
  have hpz : ¬ nI p = 0 := by rw [z_nI, nI_eq (by omega) (by omega)]; omega
  rw [fX1_isAnyOver.eq_1]
  have hv : ∀ k, k < n → fX1_height N la lb lc (nI k) (nI x) (nI y) 1 = some (iI (ht A B C k x y 1)) := fun k hk => by
    have h := m_height hD hn N hk (x : Int) (y : Int) 1
    rw [iI_nI, iI_nI] at h
    exact h
  have hrem : ∀ k, k < n → iI (ht A B C k x y 1) - iI (ht A B C k x y 1) / nI p * nI p = iI ((ht A B C k x y 1).tmod p) := fun k hk => by
    rw [← iI_nI p, iI_rem (ht_sm2 hR hk hx hy) (sm_n (by omega)) (by omega)]
  have hrs : ∀ k, k < n → sm ((ht A B C k x y 1).tmod p) := fun k hk => by
    have h1 := ht_sm2 hR hk hx hy
    have h2 : ((ht A B C k x y 1).tmod p).natAbs ≤ (ht A B C k x y 1).natAbs := by rw [Int.natAbs_tmod]; exact Nat.mod_le _ _
    unfold sm at *
    have h3 : ((ht A B C k x y 1).tmod p).natAbs < p := by rw [Int.natAbs_tmod]; exact Nat.mod_lt _ hp
    omega
  rcases loop_find (fun f k => fX1_isAnyOver_b3 N la lb lc (nI n) (nI p) (nI x) (nI y) f (nI k)) (fun k => (ht A B C k x y 1).tmod p = 0) (fun _ => some 1) (some 0) n
    (fun f => by
      rw [fX1_isAnyOver_b3.eq_2, if_pos (nI_le' (by omega) (Nat.le_refl n)), zo_0])
    (fun f k hk h => by
      rw [fX1_isAnyOver_b3.eq_2, if_neg (nI_nle' (by omega) hk), if_neg hpz, hv k hk, bd_s, nz_s _ hpz, hrem k hk, if_pos (by rw [iI_eq0 (hrs k hk)]; exact h), zo_1])
    (fun f k hk h => by
      rw [fX1_isAnyOver_b3.eq_2, if_neg (nI_nle' (by omega) hk), if_neg hpz, hv k hk, bd_s, nz_s _ hpz, hrem k hk, if_neg (by rw [iI_eq0 (hrs k hk)]; exact h), nI_1])
    n N 0 (by omega) (by omega) with ⟨i, -, h1, h2, -, h3⟩ | ⟨h1, h2⟩
  · unfold over; rw [bP_t ⟨i, h1, h2⟩]; exact h3
  · unfold over; rw [bP_f (fun ⟨i, hi, z⟩ => h1 i (Nat.zero_le i) hi z)]; exact h2
theorem r_over (hD : LD n A B C la lb lc) (hR : LR n A B C) (hN : 70000 ≤ N) {p x y : Nat} (hp : 0 < p) (hp2 : p ≤ 100) (hx : x ≤ 100) (hy : y ≤ 100) (Kc : Int32 → Option (Int32 × Int32)) : fX5_points_b56 N (nI n) la lb lc (nI p) (nI x) (nI y) Kc N 1 0 = Kc (b01 (!over n A B C p x y)) := by
  have hn := hR.1
  have hpz : ¬ nI p = 0 := by rw [z_nI, nI_eq (by omega) (by omega)]; omega
  have hrs : ∀ k, k < n → sm ((ht A B C k x y 1).tmod p) := fun k hk => by
    have h3 : ((ht A B C k x y 1).tmod p).natAbs < p := by rw [Int.natAbs_tmod]; exact Nat.mod_lt _ hp
    unfold sm
    omega
  have hl := loop_u (fun f k => fX5_points_b56 N (nI n) la lb lc (nI p) (nI x) (nI y) Kc f (b01 (!bP (∃ i, i < k ∧ (ht A B C i x y 1).tmod p = 0))) (nI k)) (Kc (b01 (!over n A B C p x y))) n
    (fun f => by rw [fX5_points_b56.eq_2, if_pos (nI_le' (by omega) (Nat.le_refl n))]; rfl)
    (fun f k hk => by
      obtain ⟨a1, a2, a3⟩ := hD k hk
      have e : iI (A k) * nI x + iI (B k) * nI y - iI (C k) = iI (ht A B C k x y 1) := by
        rw [← iI_nI x, ← iI_nI y, iI_mul, iI_mul, iI_add, iI_sub]
        unfold ht
        rw [Int.mul_one]
      have hrem : iI (ht A B C k x y 1) - iI (ht A B C k x y 1) / nI p * nI p = iI ((ht A B C k x y 1).tmod p) := by
        rw [← iI_nI p, iI_rem (ht_sm2 hR hk hx hy) (sm_n (by omega)) (by omega)]
      have e0 : ∀ b, b01 b &&& 0 = b01 false := fun b => by cases b <;> decide
      have e1 : ∀ b, b01 b &&& 1 = b01 b := fun b => by cases b <;> decide
      rw [fX5_points_b56.eq_2, if_neg (nI_nle' (by omega) hk), rd_9 (by omega), rd_9 (by omega), rd_9 (by omega), a1, a2, a3, nz_s _ hpz, e, hrem, nI_1, e0, e1]
      by_cases c : (ht A B C k x y 1).tmod p = 0
      · rw [if_pos (by rw [iI_eq0 (hrs k hk)]; exact c), bP_t (P := ∃ i, i < k + 1 ∧ (ht A B C i x y 1).tmod p = 0) ⟨k, by omega, c⟩]
        rfl
      · rw [if_neg (by rw [iI_eq0 (hrs k hk)]; exact c), bP_cong (P := ∃ i, i < k + 1 ∧ (ht A B C i x y 1).tmod p = 0) (Q := ∃ i, i < k ∧ (ht A B C i x y 1).tmod p = 0)]
        constructor
        · rintro ⟨i, hi, z⟩
          have : i ≠ k := fun w => c (w ▸ z)
          exact ⟨i, by omega, z⟩
        · rintro ⟨i, hi, z⟩
          exact ⟨i, by omega, z⟩) n N 0 (by omega) (by omega)
  rw [bP_f (P := ∃ i, i < 0 ∧ (ht A B C i x y 1).tmod p = 0) (fun ⟨i, hi, _⟩ => absurd hi (Nat.not_lt_zero i))] at hl
  exact hl
theorem c_prime (hN : 70000 ≤ N) (x : Int32) : fX4_isPrime N x = some (.inr (b01 (bP (∃ j, j < 11 ∧ primesF j = x)))) := by
  rw [fX4_isPrime.eq_1]
  rcases loop_find (fun f j => fX4_isPrime_b9 N x 11 f (nI j)) (fun j => primesF j = x) (fun _ => some (.inr 1)) (some (.inr 0)) 11
    (fun f => by rw [fX4_isPrime_b9.eq_2, if_pos (by decide), zo_0])
    (fun f j hj h => by rw [fX4_isPrime_b9.eq_2, if_neg (show ¬ (11 : Int32) ≤ nI j from nI_nle' (b := 11) (by omega) hj), rd_n hj (by omega), if_pos h, zo_1])
    (fun f j hj h => by rw [fX4_isPrime_b9.eq_2, if_neg (show ¬ (11 : Int32) ≤ nI j from nI_nle' (b := 11) (by omega) hj), rd_n hj (by omega), if_neg h, nI_1])
    11 N 0 (by omega) (by omega) with ⟨i, -, h1, h2, -, h3⟩ | ⟨h1, h2⟩
  · rw [bP_t ⟨i, h1, h2⟩]; exact h3
  · rw [bP_f (fun ⟨i, hi, z⟩ => h1 i (Nat.zero_le i) hi z)]; exact h2
theorem r_prime (hN : 70000 ≤ N) {p : Nat} (hp : 2 ≤ p) (hp2 : p < 32) : fX5_isPrime N (nI p) = some (b01 (bP (∃ j, j < 11 ∧ primesF j = nI p))) := by
  have hg := loop_gen (fun f j (b : Bool) => fX5_isPrime_b13 N (nI p) f (b01 b) (nI j)) (fun b => some (b01 b)) (fun k b => b && decide (p % k ≠ 0)) p (fun j _ => 2 ≤ j)
    (fun f b _ => by rw [fX5_isPrime_b13.eq_2, if_pos (nI_le' (by omega) (Nat.le_refl p)), zo_b])
    (fun f j b hj h2 => by
      have hz : ¬ nI j = 0 := by rw [z_nI, nI_eq (by omega) (by omega)]; omega
      have e0 : b01 b &&& 0 = b01 (b && false) := bit_and b false
      have e1 : b01 b &&& 1 = b01 (b && true) := bit_and b true
      refine ⟨?_, by omega⟩
      rw [fX5_isPrime_b13.eq_2, if_neg (nI_nle' (by omega) hj), nz_s _ hz, nI_rem (by omega) (by omega), nI_1, e0, e1]
      by_cases c : p % j = 0
      · rw [if_pos (by rw [c]; rfl), decide_eq_false (fun z => z c)]
      · rw [if_neg (by rw [z_nI, nI_eq (by have := Nat.mod_lt p (show 0 < j by omega); omega) (by omega)]; exact c), decide_eq_true c])
    (p - 2) N 2 true (by omega) (by omega) (Nat.le_refl 2)
  have ht : ∀ p, p < 32 → 2 ≤ p → (itf (fun k b => b && decide (p % k ≠ 0)) 2 (p - 2) true = true ↔ ∃ j, j < 11 ∧ primesF j = nI p) := by decide +kernel
  rw [fX5_isPrime.eq_1, if_neg (show ¬ nI p ≤ (1 : Int32) from nI_nle' (b := p) (a := 1) (by omega) (by omega))]
  have hg1 := hg.1
  have hb : itf (fun k b => b && decide (p % k ≠ 0)) 2 (p - 2) true = bP (∃ j, j < 11 ∧ primesF j = nI p) := by
    rw [Bool.eq_iff_iff, bP_iff]
    exact ht p hp2 hp
  rw [hb] at hg1
  exact hg1
theorem primes_lt (j : Nat) (h : j < 11) : ∃ p, 2 ≤ p ∧ p < 32 ∧ primesF j = nI p := by
  have g : ∀ j, j < 11 → 2 ≤ (primesF j).toNatClampNeg ∧ (primesF j).toNatClampNeg < 32 ∧ primesF j = nI (primesF j).toNatClampNeg := by decide +kernel
  exact ⟨_, g j h⟩
theorem in231 (N : Nat) (x : Int32) : (∃ p, 2 ≤ p ∧ p < 32 ∧ x = nI p ∧ fX5_in N x 2 31 = some (b01 true)) ∨ ((∀ p, 2 ≤ p → p < 32 → x ≠ nI p) ∧ fX5_in N x 2 31 = some (b01 false)) := by
  rw [r_in]
  by_cases h : (2 : Int32) ≤ x ∧ x ≤ 31
  · left
    have h' := h
    rw [Int32.le_iff_toInt_le, Int32.le_iff_toInt_le, show (2 : Int32).toInt = 2 from by decide, show (31 : Int32).toInt = 31 from by decide] at h'
    refine ⟨x.toInt.natAbs, by omega, by omega, ?_, by rw [decide_eq_true h]⟩
    rw [← iI_nI]
    apply Int32.toInt_inj.mp
    rw [iI_toInt (by unfold sm; omega)]
    omega
  · right
    refine ⟨fun p h1 h2 e => h ?_, by rw [decide_eq_false h]⟩
    rw [e, Int32.le_iff_toInt_le, Int32.le_iff_toInt_le, show (2 : Int32).toInt = 2 from by decide, show (31 : Int32).toInt = 31 from by decide, ← iI_nI, iI_toInt (sm_n (by omega))]
    omega
noncomputable def frees (n : Nat) (A B C : Nat → Int) (p x : Nat) : Nat := rk (fun y => !over n A B C p x y) p
theorem o_points (hD : LD n A B C la lb lc) (hD' : LD n A B C da db dc) (hR : LR n A B C) (hN : 70000 ≤ N) (t0 : Int32) (o : Nat → Int64) (x1 : Int32) :
    ∃ u v, fL_points N la lb lc (nI n) o x1 = some u ∧ fX5_points N (nI n) da db dc t0 x1 = some v ∧ v.2 = u.1 ∧ (u.1 = 0 → u.2 0 = Int32.toInt64 v.1) := by
  have hn := hR.1
  have no : ¬ (∃ j, j < 11 ∧ primesF j = x1) → ∃ u v, fL_points N la lb lc (nI n) o x1 = some u ∧ fX5_points_b23 N (nI n) da db dc x1 t0 0 = some v ∧ v.2 = u.1 ∧ (u.1 = 0 → u.2 0 = Int32.toInt64 v.1) := by
    intro h
    rw [fL_points.eq_1, fX4_points.eq_1, c_prime hN, bP_f h, bdx_r, if_pos b01f, bdc_l, if_pos rfl, fX5_points_b23.eq_1, f_f', bd_s, if_neg b01t]
    exact ⟨_, _, rfl, rfl, rfl, fun z => absurd z one_ne0⟩
  rw [fX5_points.eq_1]
  rcases in231 N x1 with ⟨p, hp, hp2, rfl, e⟩ | ⟨h, e⟩
  · rw [e, bd_s, if_neg b01t, r_prime hN hp hp2, bd_s]
    by_cases hpr : ∃ j, j < 11 ∧ primesF j = nI p
    · rw [bP_t hpr, if_neg b01t, fX5_points_b23.eq_1, f_t', bd_s, if_pos b01f, fL_points.eq_1, fX4_points.eq_1, c_prime hN, bP_t hpr, bdx_r, if_neg b01t]
      dsimp only
      have hc : fX4_points_b21 N la lb lc (nI n) (nI p) N 0 0 = some (.inr (nI (sumN (frees n A B C p) p))) := loop_u (fun f x => fX4_points_b21 N la lb lc (nI n) (nI p) f (nI (sumN (frees n A B C p) x)) (nI x)) _ p
        (fun f => by rw [fX4_points_b21.eq_2, if_pos (nI_le' (by omega) (Nat.le_refl p))])
        (fun f x hx => by
          rw [fX4_points_b21.eq_2, if_neg (nI_nle' (by omega) hx), nI_1, sumN_s]
          refine loop_u (fun f' y => fX4_points_b29 N la lb lc (nI n) (nI p) (nI x) _ f' (nI (sumN (frees n A B C p) x + rk (fun y => !over n A B C p x y) y)) (nI y)) _ p ?_ ?_ p N 0 (by omega) (by omega)
          · intro f'
            rw [fX4_points_b29.eq_2, if_pos (nI_le' (by omega) (Nat.le_refl p))]
            rfl
          · intro f' y hy
            rw [fX4_points_b29.eq_2, if_neg (nI_nle' (by omega) hy), c_over hD hR hN (by omega) (by omega) (by omega) (by omega), bd_s, nI_1, nI_1]
            rcases ho : over n A B C p x y with _ | _
            · rw [if_pos b01f, rk_t (show (!over n A B C p x y) = true by rw [ho]; rfl)]
              rfl
            · rw [if_neg b01t, rk_f (show (!over n A B C p x y) = false by rw [ho]; rfl)]) p N 0 (by omega) (by omega)
      have hr : ∀ t, fX5_points_b36 N (nI n) da db dc t (nI p) N 0 0 = some (nI (sumN (frees n A B C p) p), t) := fun t => loop_u (fun f x => fX5_points_b36 N (nI n) da db dc t (nI p) f (nI (sumN (frees n A B C p) x)) (nI x)) _ p
        (fun f => by rw [fX5_points_b36.eq_2, if_pos (nI_le' (by omega) (Nat.le_refl p))])
        (fun f x hx => by
          rw [fX5_points_b36.eq_2, if_neg (nI_nle' (by omega) hx), nI_1, sumN_s]
          refine loop_u (fun f' y => fX5_points_b44 N (nI n) da db dc (nI p) (nI x) _ f' (nI (sumN (frees n A B C p) x + rk (fun y => !over n A B C p x y) y)) (nI y)) _ p ?_ ?_ p N 0 (by omega) (by omega)
          · intro f'
            rw [fX5_points_b44.eq_2, if_pos (nI_le' (by omega) (Nat.le_refl p))]
            rfl
          · intro f' y hy
            have ez : ∀ v : Nat, nI v + 0 = nI v := fun v => by rw [show (0 : Int32) = nI 0 from rfl, nI_add, Nat.add_zero]
            rw [fX5_points_b44.eq_2, if_neg (nI_nle' (by omega) hy), r_over hD' hR hN (by omega) (by omega) (by omega) (by omega), ez, nI_1, nI_1]
            rcases ho : over n A B C p x y with _ | _
            · rw [if_neg (show ¬ b01 (!false) = 0 by decide), rk_t (show (!over n A B C p x y) = true by rw [ho]; rfl)]
              rfl
            · rw [if_pos (show b01 (!true) = 0 by decide), rk_f (show (!over n A B C p x y) = false by rw [ho]; rfl)]) p N 0 (by omega) (by omega)
      rw [hc, hr, bdc_r]
      exact ⟨_, _, rfl, rfl, rfl, fun _ => updL0 o _⟩
    · rw [bP_f hpr, if_pos b01f]
      exact no hpr
  · rw [e, bd_s, if_pos b01f]
    refine no (fun ⟨j, hj, z⟩ => ?_)
    obtain ⟨p, h1, h2, h3⟩ := primes_lt j hj
    exact h p h1 h2 (by rw [← z, h3])
end OB
