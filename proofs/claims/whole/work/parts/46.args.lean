/-! ===== arguments, and what the law does with refusals ===== -/
section AR
theorem updL0 (o : Nat → Int64) (x : Int64) : vp_updL o 0 x 0 = x := by unfold vp_updL; rw [if_pos rfl]
theorem xne1 : ¬ xIAE = xIOO := by decide
theorem xne2 : ¬ xIOO = xIAE := by decide
theorem xne3 : ¬ xISE = xIAE := by decide
/-- a number below K, or one that is not -/
def bad (x : Int32) (K : Nat) : Prop := x < 0 ∨ nI K ≤ x
theorem idx (x : Int32) {K : Nat} (hK : K ≤ 1000000) : (∃ i, i < K ∧ x = nI i) ∨ bad x K := by
  by_cases h : x < 0 ∨ nI K ≤ x
  · exact Or.inr h
  · left
    have hs : sm (K : Int) := sm_n (by omega)
    have h1 : ¬ x < 0 := fun z => h (Or.inl z)
    have h2 : ¬ nI K ≤ x := fun z => h (Or.inr z)
    rw [Int32.lt_iff_toInt_lt, show (0 : Int32).toInt = 0 from by decide] at h1
    rw [← iI_nI, Int32.le_iff_toInt_le, iI_toInt hs] at h2
    refine ⟨x.toInt.natAbs, by omega, ?_⟩
    rw [← iI_nI]
    apply Int32.toInt_inj.mp
    rw [iI_toInt (by unfold sm; omega)]
    omega
theorem idx_lt0 {i K : Nat} (h : i < K) (hK : K ≤ 1000000) : ¬ nI i < 0 := by
  rw [← iI_nI, iI_lt0 (sm_n (by omega))]; omega
theorem idx_ltK {i K : Nat} (h : i < K) (hK : K ≤ 1000000) : nI i < nI K := by
  rw [nI_ltI (by omega) (by omega)]; exact h
theorem bad_lt {x : Int32} {K : Nat} (h : bad x K) : ¬ (¬ x < 0 ∧ x < nI K) := by
  rintro ⟨h1, h2⟩
  rcases h with h | h
  · exact h1 h
  · rw [Int32.le_iff_toInt_le] at h
    rw [Int32.lt_iff_toInt_lt] at h2
    omega
theorem bad_K {x : Int32} {K : Nat} (h : bad x K) (h1 : ¬ x < 0) : ¬ x < nI K := fun h2 => bad_lt h ⟨h1, h2⟩
theorem nI_m1i (K : Nat) (hK : K ≤ 1000000) : nI K - 1 = iI ((K : Int) - 1) := by rw [← iI_nI, iI_1, iI_sub]
theorem in_t {i K : Nat} (N : Nat) (h : i < K) (hK : K ≤ 1000000) : fX5_in N (nI i) 0 (nI K - 1) = some (b01 true) := by
  rw [r_in, nI_m1i K hK]
  congr 2
  rw [decide_eq_true_eq, ← iI_nI, iI_ge0 (sm_n (by omega)), iI_le (sm_n (by omega)) (by unfold sm; omega)]
  omega
theorem in_f {x : Int32} {K : Nat} (N : Nat) (h : bad x K) (hK : K ≤ 1000000) : fX5_in N x 0 (nI K - 1) = some (b01 false) := by
  rw [r_in, nI_m1i K hK]
  congr 2
  rw [decide_eq_false_iff_not, Int32.le_iff_toInt_le, Int32.le_iff_toInt_le, iI_toInt (show sm ((K : Int) - 1) by unfold sm; omega), show (0 : Int32).toInt = 0 from by decide]
  rcases h with h | h
  · rw [Int32.lt_iff_toInt_lt, show (0 : Int32).toInt = 0 from by decide] at h
    omega
  · rw [Int32.le_iff_toInt_le, ← iI_nI, iI_toInt (sm_n (by omega))] at h
    omega
theorem bad_ne {x : Int32} {K i : Nat} (h : bad x K) (hi : i < K) (hK : K ≤ 1000000) : ¬ x = nI i := by
  intro e
  subst e
  exact bad_lt h ⟨idx_lt0 hi hK, idx_ltK hi hK⟩
/-- -9 to 9 -/
def far (x : Int32) : Prop := x < -9 ∨ 9 < x
theorem near_or (x : Int32) : (∃ z : Int, z.natAbs ≤ 9 ∧ x = iI z) ∨ far x := by
  by_cases h : x < -9 ∨ 9 < x
  · exact Or.inr h
  · left
    have h1 : ¬ x < -9 := fun z => h (Or.inl z)
    have h2 : ¬ 9 < x := fun z => h (Or.inr z)
    rw [Int32.lt_iff_toInt_lt, show (-9 : Int32).toInt = -9 from by decide] at h1
    rw [Int32.lt_iff_toInt_lt, show (9 : Int32).toInt = 9 from by decide] at h2
    refine ⟨x.toInt, by omega, ?_⟩
    apply Int32.toInt_inj.mp
    rw [iI_toInt (by unfold sm; omega)]
theorem c_near (N : Nat) {z : Int} (h : z.natAbs ≤ 9) : fX4_isTooFar N (iI z) = some 0 := by
  have hs : sm z := sm_of h
  rw [fX4_isTooFar.eq_1, show (-9 : Int32) = iI (-9) from by decide, show (9 : Int32) = iI 9 from by decide, if_neg (by rw [iI_lt hs (by unfold sm; omega)]; omega), if_pos (by rw [iI_le hs (by unfold sm; omega)]; omega), zo_0]
theorem c_far (N : Nat) {x : Int32} (h : far x) : fX4_isTooFar N x = some 1 := by
  rw [fX4_isTooFar.eq_1]
  by_cases c : x < -9
  · rw [if_pos c, zo_1]
  · rw [if_neg c]
    rcases h with h | h
    · exact absurd h c
    · rw [if_neg (by rw [Int32.lt_iff_toInt_lt] at h; rw [Int32.le_iff_toInt_le]; omega), zo_1]
theorem r_near (N : Nat) {z : Int} (h : z.natAbs ≤ 9) : fX5_in N (iI z) (-9) 9 = some (b01 true) := by
  have hs : sm z := sm_of h
  rw [r_in, show (-9 : Int32) = iI (-9) from by decide, show (9 : Int32) = iI 9 from by decide]
  congr 2
  rw [decide_eq_true_eq, iI_le (by unfold sm; omega) hs, iI_le hs (by unfold sm; omega)]
  omega
theorem r_far (N : Nat) {x : Int32} (h : far x) : fX5_in N x (-9) 9 = some (b01 false) := by
  rw [r_in]
  congr 2
  rw [decide_eq_false_iff_not, Int32.le_iff_toInt_le, Int32.le_iff_toInt_le]
  rcases h with h | h
  · rw [Int32.lt_iff_toInt_lt] at h; omega
  · rw [Int32.lt_iff_toInt_lt] at h; omega
theorem f_t (N : Nat) (t k : Int32) : fX5_fails N t (b01 true) k = some (b01 false, 0) := r_fails N t true k
theorem f_f (N : Nat) (t k : Int32) : fX5_fails N t (b01 false) k = some (b01 true, k) := r_fails N t false k
theorem f_t' (N : Nat) (t k : Int32) : fX5_fails N t 1 k = some (b01 false, 0) := r_fails N t true k
theorem f_f' (N : Nat) (t k : Int32) : fX5_fails N t 0 k = some (b01 true, k) := r_fails N t false k
theorem b01f : b01 false = 0 := rfl
theorem b01t : ¬ b01 true = 0 := by decide
/-! bits, counted -/
def pc (s : Nat) : Nat := rk (fun i => s.testBit i) 9
theorem m_bitCount (N : Nat) {s : Nat} (h : s < 512) : fJ6_bitCount_0f7a4 N (nI s) = some (nI (pc s)) := by
  have g : ∀ s, s < 512 → fJ6_bitCount_0f7a4 0 (nI s) = some (nI (pc s)) := by decide +kernel
  exact g s h
def pcn : Nat → Nat → Nat
  | 0, _ => 0
  | t + 1, s => s % 2 + pcn t (s / 2)
theorem pcn_9 : ∀ s, s < 512 → pcn 9 s = pc s := by decide +kernel
theorem nI_half {s : Nat} (h : s < 1024) : nI s >>> (1 &&& 31) = nI (s / 2) ∧ nI s &&& 1 = nI (s % 2) := by
  have g : ∀ s, s < 1024 → nI s >>> (1 &&& 31) = nI (s / 2) ∧ nI s &&& 1 = nI (s % 2) := by decide +kernel
  exact g s h
theorem r_size_b (N : Nat) : ∀ (t s a f : Nat), s < 2 ^ t → t ≤ 9 → t < f → fX5_size_b4 N f (nI a) (nI s) = some (nI (a + pcn t s))
  | 0, s, a, f, h, _, hf => by
    obtain ⟨f', rfl⟩ : ∃ f', f = f' + 1 := ⟨f - 1, by omega⟩
    obtain rfl : s = 0 := by simp at h; exact h
    rw [fX5_size_b4.eq_2, if_pos (by decide)]
    rfl
  | t + 1, s, a, f, h, ht, hf => by
    obtain ⟨f', rfl⟩ : ∃ f', f = f' + 1 := ⟨f - 1, by omega⟩
    have h9 : s < 512 := lt512 h (by omega)
    rw [fX5_size_b4.eq_2]
    by_cases c : s = 0
    · subst c
      have : ∀ t, pcn t 0 = 0 := fun t => by
        induction t with
        | zero => rfl
        | succ t ih => show 0 % 2 + pcn t (0 / 2) = 0; rw [show 0 / 2 = 0 from rfl, ih]
      rw [if_pos (by decide), this]
      rfl
    · rw [if_neg (by rw [← iI_nI, iI_le0 (sm_n (by omega))]; omega), (nI_half (by omega)).1, (nI_half (by omega)).2, nI_add, r_size_b N t (s / 2) (a + s % 2) f' (by rw [Nat.pow_succ] at h; omega) (by omega) (by omega)]
      show some (nI (a + s % 2 + pcn t (s / 2))) = some (nI (a + (s % 2 + pcn t (s / 2))))
      rw [Nat.add_assoc]
theorem r_size {N : Nat} (hN : 70000 ≤ N) {s : Nat} (h : s < 512) : fX5_size N (nI s) = some (nI (pc s)) := by
  rw [fX5_size.eq_1, show (0 : Int32) = nI 0 from rfl, r_size_b N 9 s 0 N h (by omega) (by omega), pcn_9 s h, Nat.zero_add]
variable {n : Nat} {A B C : Nat → Int} {la lb lc : Nat → Int32} {N : Nat} {K : Nat} {X Y D : Nat → Int} {x' y' d' : Nat → Int32}
theorem r_through (hD : LD n A B C la lb lc) (hR : LR n A B C) (hM : MSp n A B C K X Y D) (hP : Rp K X Y D x' y' d') (hK : K ≤ 36) (hN : 70000 ≤ N) {i : Nat} (hi : i < K) : fX5_through N (nI n) la lb lc x' y' d' (nI i) = some (nI (thrS n A B C (X i) (Y i) (D i))) := by
  have hn := hR.1
  rw [fX5_through.eq_1]
  refine loop_it (fun f j (s : Nat) => fX5_through_b4 N (nI n) la lb lc x' y' d' (nI i) f (nI s) (nI j)) (fun s => some (nI s)) (fun k s => if decide (ht A B C k (X i) (Y i) (D i) = 0) then s ||| 2 ^ k else s) n ?_ ?_ (by omega) 0
  · intro f s
    show fX5_through_b4 N (nI n) la lb lc x' y' d' (nI i) (f + 1) (nI s) (nI n) = _
    rw [fX5_through_b4.eq_2, if_pos (nI_le' (by omega) (Nat.le_refl n))]
  · intro f j s hj
    show fX5_through_b4 N (nI n) la lb lc x' y' d' (nI i) (f + 1) (nI s) (nI j) = fX5_through_b4 N (nI n) la lb lc x' y' d' (nI i) f (nI _) (nI (j + 1))
    have e0 : nI s ||| 0 = nI s := by rw [show (0 : Int32) = nI 0 from rfl, nI_or, Nat.or_zero]
    rw [fX5_through_b4.eq_2, if_neg (nI_nle' (by omega) hj), nI_1, e0, r_side hD hR hM hP hK N hj hi, bd_s]
    by_cases c : ht A B C j (X i) (Y i) (D i) = 0
    · rw [if_pos (by rw [iI_eq0 (sm_sg _), sg_0]; exact c), m_shl (by omega), nI_or, nm_s, decide_eq_true c, if_pos rfl]
    · rw [if_neg (by rw [iI_eq0 (sm_sg _), sg_0]; exact c), decide_eq_false c, if_neg (by decide)]
end AR
