/-! ===== loops with a condition, the reference's small words, Euclid ===== -/
section AUX
theorem loop_ex {σ ρ : Type} (F : Nat → Nat → σ → Option ρ) (K : σ → Option ρ) (n : Nat) (P : Nat → σ → Prop)
    (hexit : ∀ f s, P n s → F (f + 1) n s = K s) (hstep : ∀ f j s, j < n → P j s → ∃ s', P (j + 1) s' ∧ F (f + 1) j s = F f (j + 1) s') :
    ∀ m f j s, j + m = n → m < f → P j s → ∃ s', P n s' ∧ F f j s = K s' := by
  intro m
  induction m with
  | zero =>
    intro f j s hj hf hp
    obtain ⟨f', rfl⟩ : ∃ f', f = f' + 1 := ⟨f - 1, by omega⟩
    obtain rfl : j = n := by omega
    exact ⟨s, hp, hexit f' s hp⟩
  | succ m ih =>
    intro f j s hj hf hp
    obtain ⟨f', rfl⟩ : ∃ f', f = f' + 1 := ⟨f - 1, by omega⟩
    obtain ⟨s', hp', e⟩ := hstep f' j s (by omega) hp
    obtain ⟨s2, hp2, e2⟩ := ih f' (j + 1) s' (by omega) (by omega) hp'
    exact ⟨s2, hp2, by rw [e, e2]⟩
theorem lt_n {a b : Nat} (ha : a < 2147483648) (hb : b < 2147483648) : (nI a < nI b) = (a < b) := propext (nI_ltI ha hb)
theorem le_n {a b : Nat} (ha : a < 2147483648) (hb : b < 2147483648) : (nI a ≤ nI b) = (a ≤ b) := propext (nI_leI ha hb)
theorem eq_n {a b : Nat} (ha : a < 2147483648) (hb : b < 2147483648) : (nI a = nI b) = (a = b) := propext (nI_eq ha hb)
theorem z_nI : (0 : Int32) = nI 0 := rfl
theorem sm_n {a : Nat} (h : a < 2147483648) : sm (a : Int) := by unfold sm; omega
theorem nI_rem {a b : Nat} (ha : a < 2147483648) (hb : b < 2147483648) : nI a - nI a / nI b * nI b = nI (a % b) := by
  rw [← iI_nI, ← iI_nI, ← iI_nI, iI_rem (sm_n ha) (sm_n hb) (by omega)]
  rfl
theorem mod_half {b r : Nat} (hr : 0 < r) (hrb : r < b) : 2 * (b % r) < b := by
  have h1 := Nat.div_add_mod b r
  have h2 := Nat.mod_lt b hr
  have h3 : 1 ≤ b / r := Nat.div_pos (by omega) hr
  have h4 : r ≤ r * (b / r) := Nat.le_mul_of_pos_right r h3
  omega
theorem m_cd_b (N : Nat) : ∀ (t a b f c : Nat), b < 2 ^ t → 2 * t + c < 64 → 2 * t < f → a < 2147483648 → b < 2147483648 → fX2_commonDivisor_b13 N f (nI a) (nI b) (nI c) = some (nI (Nat.gcd b a)) := by
  intro t
  induction t with
  | zero =>
    intro a b f c hb ht hf ha hb2
    obtain rfl : b = 0 := by simp at hb; omega
    obtain ⟨f', rfl⟩ : ∃ f', f = f' + 1 := ⟨f - 1, by omega⟩
    rw [fX2_commonDivisor_b13.eq_2, if_neg (by rw [show (64 : Int32) = nI 64 from rfl, nI_leI (by omega) (by omega)]; omega), if_pos (show nI 0 = 0 from rfl), Nat.gcd_zero_left]
  | succ t ih =>
    intro a b f c hb ht hf ha hb2
    obtain ⟨f', rfl⟩ : ∃ f', f = f' + 1 + 1 := ⟨f - 2, by omega⟩
    rw [fX2_commonDivisor_b13.eq_2, if_neg (by rw [show (64 : Int32) = nI 64 from rfl, nI_leI (by omega) (by omega)]; omega)]
    by_cases c0 : b = 0
    · subst c0
      rw [if_pos (show nI 0 = 0 from rfl), Nat.gcd_zero_left]
    · have hnz : ¬ nI b = 0 := by rw [z_nI, nI_eq hb2 (by omega)]; exact c0
      have hm : a % b < b := Nat.mod_lt a (by omega)
      rw [if_neg hnz, nz_s _ hnz, nI_rem ha hb2, nI_1, fX2_commonDivisor_b13.eq_2, if_neg (by rw [show (64 : Int32) = nI 64 from rfl, nI_leI (by omega) (by omega)]; omega)]
      by_cases c2 : a % b = 0
      · rw [c2, if_pos (show nI 0 = 0 from rfl), Nat.gcd_rec b a, c2, Nat.gcd_zero_left]
      · have hnz2 : ¬ nI (a % b) = 0 := by rw [z_nI, nI_eq (by omega) (by omega)]; exact c2
        have hh := mod_half (b := b) (r := a % b) (by omega) hm
        have h2 : 2 ^ (t + 1) = 2 * 2 ^ t := by rw [Nat.pow_succ]; omega
        have h3 : b % (a % b) < a % b := Nat.mod_lt b (by omega)
        rw [if_neg hnz2, nz_s _ hnz2, nI_rem hb2 (by omega), nI_1, ih (a % b) (b % (a % b)) f' (c + 1 + 1) (by omega) (by omega) (by omega) (by omega) (by omega), ← Nat.gcd_rec (a % b) b, ← Nat.gcd_rec b a]
theorem iI_nat {z : Int} (h : 0 ≤ z) : iI z = nI z.natAbs := by
  rw [← iI_nI]
  congr 1
  omega
theorem jAbs_i {x : Int} (hx : x.natAbs ≤ 1000) : jAbs (iI x) = nI x.natAbs := by
  unfold jAbs
  have sx : sm x := sm_of hx
  by_cases c : 0 ≤ x
  · rw [if_pos ((iI_ge0 sx).mpr c), iI_nat c]
  · rw [if_neg (fun z => c ((iI_ge0 sx).mp z)), iI_0, iI_sub, iI_nat (z := 0 - x) (by omega)]
    congr 1
    omega
theorem m_commonDivisor {N : Nat} (hN : 70000 ≤ N) {x y : Int} (hx : x.natAbs ≤ 1000) (hy : y.natAbs ≤ 1000) : fX2_commonDivisor N (iI x) (iI y) = some (nI (Int.gcd x y)) := by
  rw [fX2_commonDivisor.eq_1, jAbs_i hx, jAbs_i hy, Int.gcd, Nat.gcd_comm]
  exact m_cd_b N 10 x.natAbs y.natAbs N 0 (by omega) (by omega) (by omega) (by omega) (by omega)
theorem sm_sg (z : Int) : sm (sg z) := by unfold sg sm; (repeat' split) <;> omega
theorem sg_0 {z : Int} : sg z = 0 ↔ z = 0 := by unfold sg; (repeat' split) <;> omega
theorem sg_pos {z : Int} : 0 < sg z ↔ 0 < z := by unfold sg; (repeat' split) <;> omega
theorem sg_neg {z : Int} : sg z < 0 ↔ z < 0 := by unfold sg; (repeat' split) <;> omega
end AUX

