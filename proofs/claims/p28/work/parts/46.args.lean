/-! ===== arguments, and what the law does with refusals ===== -/
section AR
theorem updL0 (o : Nat → Int64) (x : Int64) : vp_updL o 0 x 0 = x := by unfold vp_updL; rw [if_pos rfl]
theorem xne1 : ¬ xIAE = xIOO := by decide
theorem xne2 : ¬ xIOO = xIAE := by decide
theorem xne3 : ¬ xISE = xIAE := by decide
/-- a number below K, or one that is not -/
def bad (x : Int32) (K : Nat) : Prop := x < 0 ∨ nI K ≤ x
theorem idx (x : Int32) {K : Nat} (hK : K ≤ 1000000) : (∃ i, i < K ∧ x = nI i) ∨ bad x K := by
  by_cases h : x < 0 ∨ nI K ≤ x
  · exact Or.inr h
  · left
    have hs : sm (K : Int) := sm_n (by omega)
    have h1 : ¬ x < 0 := fun z => h (Or.inl z)
    have h2 : ¬ nI K ≤ x := fun z => h (Or.inr z)
    rw [Int32.lt_iff_toInt_lt, show (0 : Int32).toInt = 0 from by decide] at h1
    rw [← iI_nI, Int32.le_iff_toInt_le, iI_toInt hs] at h2
    refine ⟨x.toInt.natAbs, by omega, ?_⟩
    rw [← iI_nI]
    apply Int32.toInt_inj.mp
    rw [iI_toInt (by unfold sm; omega)]
    omega
theorem idx_lt0 {i K : Nat} (h : i < K) (hK : K ≤ 1000000) : ¬ nI i < 0 := by
  rw [← iI_nI, iI_lt0 (sm_n (by omega))]; omega
theorem idx_ltK {i K : Nat} (h : i < K) (hK : K ≤ 1000000) : nI i < nI K := by
  rw [nI_ltI (by omega) (by omega)]; exact h
theorem bad_lt {x : Int32} {K : Nat} (h : bad x K) : ¬ (¬ x < 0 ∧ x < nI K) := by
  rintro ⟨h1, h2⟩
  rcases h with h | h
  · exact h1 h
  · rw [Int32.le_iff_toInt_le] at h
    rw [Int32.lt_iff_toInt_lt] at h2
    omega
theorem bad_K {x : Int32} {K : Nat} (h : bad x K) (h1 : ¬ x < 0) : ¬ x < nI K := fun h2 => bad_lt h ⟨h1, h2⟩
theorem nI_m1i (K : Nat) (hK : K ≤ 1000000) : nI K - 1 = iI ((K : Int) - 1) := by rw [← iI_nI, iI_1, iI_sub]
theorem bad_ne {x : Int32} {K i : Nat} (h : bad x K) (hi : i < K) (hK : K ≤ 1000000) : ¬ x = nI i := by
  intro e
  subst e
  exact bad_lt h ⟨idx_lt0 hi hK, idx_ltK hi hK⟩
/-- -9 to 9 -/
def far (x : Int32) : Prop := x < -9 ∨ 9 < x
theorem near_or (x : Int32) : (∃ z : Int, z.natAbs ≤ 9 ∧ x = iI z) ∨ far x := by
  by_cases h : x < -9 ∨ 9 < x
  · exact Or.inr h
  · left
    have h1 : ¬ x < -9 := fun z => h (Or.inl z)
    have h2 : ¬ 9 < x := fun z => h (Or.inr z)
    rw [Int32.lt_iff_toInt_lt, show (-9 : Int32).toInt = -9 from by decide] at h1
    rw [Int32.lt_iff_toInt_lt, show (9 : Int32).toInt = 9 from by decide] at h2
    refine ⟨x.toInt, by omega, ?_⟩
    apply Int32.toInt_inj.mp
    rw [iI_toInt (by unfold sm; omega)]
theorem c_near (N : Nat) {z : Int} (h : z.natAbs ≤ 9) : fX4_isTooFar N (iI z) = some 0 := by
  have hs : sm z := sm_of h
  rw [fX4_isTooFar.eq_1, show (-9 : Int32) = iI (-9) from by decide, show (9 : Int32) = iI 9 from by decide, if_neg (by rw [iI_lt hs (by unfold sm; omega)]; omega), if_pos (by rw [iI_le hs (by unfold sm; omega)]; omega), zo_0]
theorem c_far (N : Nat) {x : Int32} (h : far x) : fX4_isTooFar N x = some 1 := by
  rw [fX4_isTooFar.eq_1]
  by_cases c : x < -9
  · rw [if_pos c, zo_1]
  · rw [if_neg c]
    rcases h with h | h
    · exact absurd h c
    · rw [if_neg (by rw [Int32.lt_iff_toInt_lt] at h; rw [Int32.le_iff_toInt_le]; omega), zo_1]
theorem b01f : b01 false = 0 := rfl
theorem b01t : ¬ b01 true = 0 := by decide
/-! bits, counted -/
def pc (s : Nat) : Nat := rk (fun i => s.testBit i) 9
theorem m_bitCount (N : Nat) {s : Nat} (h : s < 512) : fJ6_bitCount_0f7a4 N (nI s) = some (nI (pc s)) := by
  have g : ∀ s, s < 512 → fJ6_bitCount_0f7a4 0 (nI s) = some (nI (pc s)) := by decide +kernel
  exact g s h
def pcn : Nat → Nat → Nat
  | 0, _ => 0
  | t + 1, s => s % 2 + pcn t (s / 2)
theorem pcn_9 : ∀ s, s < 512 → pcn 9 s = pc s := by decide +kernel
theorem nI_half {s : Nat} (h : s < 1024) : nI s >>> (1 &&& 31) = nI (s / 2) ∧ nI s &&& 1 = nI (s % 2) := by
  have g : ∀ s, s < 1024 → nI s >>> (1 &&& 31) = nI (s / 2) ∧ nI s &&& 1 = nI (s % 2) := by decide +kernel
  exact g s h
variable {n : Nat} {A B C : Nat → Int} {la lb lc : Nat → Int32} {N : Nat} {K : Nat} {X Y D : Nat → Int} {x' y' d' : Nat → Int32}
end AR

