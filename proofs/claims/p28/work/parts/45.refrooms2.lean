/-! ===== .. and they are the ROOMS ===== -/
section RR2
variable {n : Nat} {A B C : Nat → Int} {la lb lc : Nat → Int32} {N : Nat} {K : Nat} {X Y D : Nat → Int} {x' y' d' : Nat → Int32}
theorem crz {A B : Nat → Int} {a b : Nat} (h : cr A B a b ≠ 0) : B a * A b - A a * B b ≠ 0 := by
  unfold cr at h
  have := Int.mul_comm (A b) (B a)
  omega
theorem sgmul {w z : Int} (hw : w = 1 ∨ w = -1) : 0 < w * sg z ↔ 0 < w * z := by
  have h1 := sg_pos (z := z)
  have h2 := sg_neg (z := z)
  rcases hw with e | e <;> rw [e] <;> omega
theorem al_sing (hU : LU n A B C) (hM : MSp n A B C K X Y D) {i b : Nat} (hi : i < K) (hb : b < n) (h0 : ht A B C b (X i) (Y i) (D i) = 0) {w : Int} (hw : w = 1 ∨ w = -1) : ∃ x y d, Sing n A B C b x y d ∧ abvS n A B C x y d = alS n A B C (X i) (Y i) (D i) b w := by
  obtain ⟨hr, -⟩ := hM.1 i hi
  obtain ⟨T, hT, hT2⟩ := near_ex n A B C (X i) (Y i) (D i) (-(w * B b)) (w * A b)
  have hsh : ∀ k, ht A B C k ((T : Int) * X i + -(w * B b)) ((T : Int) * Y i + w * A b) ((T : Int) * D i) = (T : Int) * ht A B C k (X i) (Y i) (D i) + w * (B k * A b - A k * B b) := by
    intro k
    rw [ht_shift]
    grind
  have key : ∀ k, k < n → k ≠ b → ht A B C k ((T : Int) * X i + -(w * B b)) ((T : Int) * Y i + w * A b) ((T : Int) * D i) ≠ 0 ∧ (0 < ht A B C k ((T : Int) * X i + -(w * B b)) ((T : Int) * Y i + w * A b) ((T : Int) * D i) ↔ 0 < alg A B C (X i) (Y i) (D i) b w k) := by
    intro k hk e
    unfold alg
    by_cases c : ht A B C k (X i) (Y i) (D i) = 0
    · rw [if_pos c, hsh, c, sgmul hw]
      obtain ⟨c1, -, -⟩ := two_on hU hk hb e hr.1 c h0
      have c2 := crz c1
      constructor
      · rcases hw with z | z <;> rw [z] <;> omega
      · rw [Int.mul_zero, Int.zero_add]
    · rw [if_neg c, sg_pos]
      have h2 := hT2 k hk
      rcases Int.lt_trichotomy (ht A B C k (X i) (Y i) (D i)) 0 with z | z | z
      · have := h2.2 z; omega
      · exact absurd z c
      · have := h2.1 z; omega
  refine ⟨_, _, _, ⟨hb, Int.mul_pos (by omega) hr.1, ?_, fun k hk e => (key k hk e).1⟩, ?_⟩
  · rw [hsh, h0]
    have : B b * A b - A b * B b = 0 := by rw [Int.mul_comm]; omega
    rw [this]
    simp
  · apply Nat.eq_of_testBit_eq
    intro k
    rw [Bool.eq_iff_iff, abvS_t, alS_t]
    by_cases e : k = b
    · subst e
      constructor
      · rintro ⟨-, z⟩
        rw [hsh, h0] at z
        have : B k * A k - A k * B k = 0 := by rw [Int.mul_comm]; omega
        rw [this] at z
        simp at z
      · rintro ⟨-, z, -⟩
        exact absurd rfl z
    · constructor
      · rintro ⟨z1, z2⟩
        exact ⟨z1, e, (key k z1 e).2.mp z2⟩
      · rintro ⟨z1, -, z2⟩
        exact ⟨z1, (key k z1 e).2.mpr z2⟩
theorem max_ex {P : Nat → Prop} : ∀ n, (∃ j, j < n ∧ P j) → ∃ k, k < n ∧ P k ∧ ∀ j, k < j → j < n → ¬ P j := by
  intro n
  induction n with
  | zero => rintro ⟨j, h, -⟩; omega
  | succ n ih =>
    rintro ⟨j, hj, pj⟩
    by_cases c : P n
    · exact ⟨n, by omega, c, fun i h1 h2 => by omega⟩
    · have hjn : j ≠ n := fun z => c (z ▸ pj)
      obtain ⟨k, hk, pk, hm⟩ := ih ⟨j, by omega, pj⟩
      refine ⟨k, by omega, pk, fun i h1 h2 => ?_⟩
      by_cases e : i = n
      · subst e; exact c
      · exact hm i h1 (by omega)
theorem min_ex {P : Nat → Prop} : ∀ n, (∃ j, j < n ∧ P j) → ∃ k, k < n ∧ P k ∧ ∀ j, j < k → ¬ P j := by
  intro n
  induction n with
  | zero => rintro ⟨j, h, -⟩; omega
  | succ n ih =>
    rintro ⟨j, hj, pj⟩
    by_cases c : ∃ j, j < n ∧ P j
    · obtain ⟨k, hk, pk, hm⟩ := ih c
      exact ⟨k, by omega, pk, hm⟩
    · have : j = n := by
        rcases Nat.lt_or_ge j n with z | z
        · exact absurd ⟨j, z, pj⟩ c
        · omega
      subst this
      exact ⟨j, by omega, pj, fun i hi pi => c ⟨i, hi, pi⟩⟩
/-- the nearest MEET along a LINE -/
theorem nearest (hU : LU n A B C) (hM : MSp n A B C K X Y D) {b : Nat} {x y d : Int} (h : Sing n A B C b x y d) (hex : ∃ i, i < K ∧ ht A B C b (X i) (Y i) (D i) = 0) : ∃ i, i < K ∧ ht A B C b (X i) (Y i) (D i) = 0 ∧ ∀ k, k < n → ¬ ht A B C k (X i) (Y i) (D i) * ht A B C k x y d < 0 := by
  by_cases c : ∃ i, i < K ∧ (ht A B C b (X i) (Y i) (D i) = 0 ∧ lt3 (X i) (Y i) (D i) x y d)
  · obtain ⟨i, hi, ⟨h1, h2⟩, hm⟩ := max_ex K c
    refine ⟨i, hi, h1, fun k hk hs => ?_⟩
    obtain ⟨j, hj, hjb, ⟨c1, c2⟩ | ⟨c1, c2⟩⟩ := between hU hM h.1 hk (hM.1 i hi).1.1 h.2.1 h1 h.2.2.1 hs
    · have hij : i < j := by
        rcases Nat.lt_trichotomy i j with z | z | z
        · exact z
        · subst z; exact absurd c1 (fun z => lt3_irr z ⟨rfl, rfl⟩)
        · exact absurd (hM.2.1 j i z hi) (fun z => lt3_asy c1 z)
      exact hm j hij hj ⟨hjb, c2⟩
    · have := lt3_tr h.2.1 (hM.1 j hj).1.1 (hM.1 i hi).1.1 c1 c2
      exact lt3_asy this h2
  · obtain ⟨i, hi, h1, hm⟩ := min_ex K hex
    have h2 : lt3 x y d (X i) (Y i) (D i) := by
      rcases lt3_tri (X i) (Y i) (D i) x y d with z | z | z
      · exact absurd ⟨i, hi, h1, z⟩ c
      · exact absurd z (sing_ne hM h hi)
      · exact z
    refine ⟨i, hi, h1, fun k hk hs => ?_⟩
    obtain ⟨j, hj, hjb, ⟨c1, c2⟩ | ⟨c1, c2⟩⟩ := between hU hM h.1 hk (hM.1 i hi).1.1 h.2.1 h1 h.2.2.1 hs
    · exact c ⟨j, hj, hjb, c2⟩
    · have hij : j < i := by
        rcases Nat.lt_trichotomy i j with z | z | z
        · exact absurd (hM.2.1 i j z hj) (fun z => lt3_asy c2 z)
        · subst z; exact absurd c2 (fun z => lt3_irr z ⟨rfl, rfl⟩)
        · exact z
      exact hm j hij hjb
theorem pos_mul_iff {a b : Int} (ha : 0 < a) : 0 < a * b ↔ 0 < b := by
  constructor
  · intro h; rcases pos_of_mul h with ⟨a1, a2⟩ | ⟨a1, a2⟩ <;> omega
  · intro h; exact Int.mul_pos ha h
theorem sing_al (hN : ∀ j, j < n → ¬ (A j = 0 ∧ B j = 0)) (hU : LU n A B C) (hM : MSp n A B C K X Y D) {b : Nat} {x y d : Int} (h : Sing n A B C b x y d) (hex : ∃ i, i < K ∧ ht A B C b (X i) (Y i) (D i) = 0) : ∃ i w, i < K ∧ ht A B C b (X i) (Y i) (D i) = 0 ∧ (w = 1 ∨ w = -1) ∧ abvS n A B C x y d = alS n A B C (X i) (Y i) (D i) b w := by
  obtain ⟨i, hi, h1, hsg⟩ := nearest hU hM h hex
  obtain ⟨hr, p, q, -, hat⟩ := hM.1 i hi
  have hsq := sq_pos (hN b h.1)
  obtain ⟨lam, hlam⟩ : ∃ z, z = pos A B b x y * D i - pos A B b (X i) (Y i) * d := ⟨_, rfl⟩
  obtain ⟨nn, hnn⟩ : ∃ z, z = A b * A b + B b * B b := ⟨_, rfl⟩
  rw [← hnn] at hsq
  have hid : ∀ k, nn * (ht A B C k x y d * D i - ht A B C k (X i) (Y i) (D i) * d) = (B k * A b - A k * B b) * lam := by
    intro k
    rw [hnn, hlam]
    exact along_id (p := A k) (q := B k) (e := C k) h.2.2.1 h1
  have hl0 : lam ≠ 0 := by
    intro z
    have hz : ∀ k, ht A B C k (X i) (Y i) (D i) = 0 → ht A B C k x y d = 0 := by
      intro k hk
      have := hid k
      rw [z, hk, Int.mul_zero, Int.zero_mul, Int.sub_zero] at this
      rcases Int.mul_eq_zero.mp this with w | w
      · omega
      · rcases Int.mul_eq_zero.mp w with w | w
        · exact w
        · have := hr.1; omega
    by_cases ea : p = b
    · by_cases eb : q = b
      · subst ea; subst eb
        exact hat.2.2.1 (cr_self A B _)
      · exact h.2.2.2 q hat.2.1 eb (hz q hat.2.2.2.2)
    · exact h.2.2.2 p hat.1 ea (hz p hat.2.2.2.1)
  refine ⟨i, sgn1 lam, hi, h1, sgn1_or lam, ?_⟩
  apply Nat.eq_of_testBit_eq
  intro k
  rw [Bool.eq_iff_iff, abvS_t, alS_t]
  by_cases e : k = b
  · subst e
    constructor
    · rintro ⟨-, z⟩
      rw [h.2.2.1] at z
      omega
    · rintro ⟨-, z, -⟩
      exact absurd rfl z
  · have hk2 : k < n → (0 < ht A B C k x y d ↔ 0 < alg A B C (X i) (Y i) (D i) b (sgn1 lam) k) := by
      intro hk
      have hne := h.2.2.2 k hk e
      unfold alg
      by_cases c : ht A B C k (X i) (Y i) (D i) = 0
      · rw [if_pos c, sgmul (sgn1_or lam)]
        have := hid k
        rw [c, Int.zero_mul, Int.sub_zero] at this
        have e1 : nn * (ht A B C k x y d * D i) = (nn * D i) * ht A B C k x y d := by grind
        rw [e1] at this
        rw [← pos_mul_iff (Int.mul_pos hsq hr.1) (b := ht A B C k x y d), this, Int.mul_comm]
        unfold sgn1
        split
        · rename_i hl
          constructor
          · intro z
            rcases pos_of_mul z with ⟨a1, a2⟩ | ⟨a1, a2⟩ <;> omega
          · intro z
            exact Int.mul_pos_of_neg_of_neg hl (by omega)
        · rename_i hl
          constructor
          · intro z
            rcases pos_of_mul z with ⟨a1, a2⟩ | ⟨a1, a2⟩ <;> omega
          · intro z
            exact Int.mul_pos (by omega) (by omega)
      · rw [if_neg c, sg_pos]
        have hs := hsg k hk
        constructor
        · intro z
          rcases Int.lt_trichotomy (ht A B C k (X i) (Y i) (D i)) 0 with w | w | w
          · exact absurd (Int.mul_neg_of_neg_of_pos w z) hs
          · exact absurd w c
          · exact w
        · intro z
          rcases Int.lt_trichotomy (ht A B C k x y d) 0 with w | w | w
          · exact absurd (Int.mul_neg_of_pos_of_neg z w) hs
          · exact absurd w hne
          · exact w
    constructor
    · rintro ⟨z1, z2⟩
      exact ⟨z1, e, (hk2 z1).mp z2⟩
    · rintro ⟨z1, -, z2⟩
      exact ⟨z1, (hk2 z1).mpr z2⟩
/-- where some cross, each LINE is crossed -/
theorem all_crossed (hN : ∀ j, j < n → ¬ (A j = 0 ∧ B j = 0)) (hM : MSp n A B C K X Y D) (hK : 0 < K) {k : Nat} (hk : k < n) : ∃ i, i < K ∧ ht A B C k (X i) (Y i) (D i) = 0 := by
  obtain ⟨-, a, b, -, ha, hb, hab, -, -⟩ := hM.1 0 hK
  by_cases c : cr A B k a = 0
  · by_cases c2 : cr A B k b = 0
    · exfalso
      have g1 : A k * cr A B a b = 0 := by unfold cr at *; grind
      have g2 : B k * cr A B a b = 0 := by unfold cr at *; grind
      refine hN k hk ⟨?_, ?_⟩
      · rcases Int.mul_eq_zero.mp g1 with z | z
        · exact z
        · exact absurd z hab
      · rcases Int.mul_eq_zero.mp g2 with z | z
        · exact z
        · exact absurd z hab
    · obtain ⟨i, hi, hat⟩ := hM.2.2 k b trivial hk hb c2
      exact ⟨i, hi, hat.2.2.2.1⟩
  · obtain ⟨i, hi, hat⟩ := hM.2.2 k a trivial hk ha c
    exact ⟨i, hi, hat.2.2.2.1⟩
/-! no LINES cross -/
def pmine (A B : Nat → Int) (k : Nat) : Int := A k * A 0 + B k * B 0
noncomputable def paS (n : Nat) (A B C : Nat → Int) (k : Nat) : Nat := bset (fun j => decide (j ≠ k ∧ 0 < (C k * pmine A B j - C j * pmine A B k) * sg (pmine A B k))) n
theorem par_id {aj bj cj ak bk ck a0 b0 : Int} (h : aj * bk - ak * bj = 0) : (aj * (ak * ck) + bj * (bk * ck) - cj * (ak * ak + bk * bk)) * (ak * a0 + bk * b0) = (ak * ak + bk * bk) * (ck * (aj * a0 + bj * b0) - cj * (ak * a0 + bk * b0)) := by grind
theorem mine_id1 {ak bk a0 b0 : Int} (h : ak * b0 - a0 * bk = 0) (h2 : ak * a0 + bk * b0 = 0) : (a0 * a0 + b0 * b0) * ak = 0 := by grind
theorem mine_id2 {ak bk a0 b0 : Int} (h : ak * b0 - a0 * bk = 0) (h2 : ak * a0 + bk * b0 = 0) : (a0 * a0 + b0 * b0) * bk = 0 := by grind
theorem mul_sg_pos {u v : Int} (hv : v ≠ 0) : 0 < u * v * sg v ↔ 0 < u := by
  have h1 := @sg_pos v
  have h2 := @sg_neg v
  rcases Int.lt_trichotomy v 0 with c | c | c
  · have e : sg v = -1 := by rcases sg_cases v with z | z | z <;> omega
    rw [e]
    constructor
    · intro z
      have : u * v < 0 := by omega
      rcases neg_of_mul this with ⟨a1, a2⟩ | ⟨a1, a2⟩ <;> omega
    · intro z
      have := Int.mul_neg_of_pos_of_neg z c
      omega
  · exact absurd c hv
  · have e : sg v = 1 := by rcases sg_cases v with z | z | z <;> omega
    rw [e, Int.mul_one]
    constructor
    · intro z
      rcases pos_of_mul z with ⟨a1, a2⟩ | ⟨a1, a2⟩ <;> omega
    · intro z
      exact Int.mul_pos z c
theorem par_sing (hN : ∀ j, j < n → ¬ (A j = 0 ∧ B j = 0)) (hU : LU n A B C) (hM : MSp n A B C 0 X Y D) {k : Nat} (hk : k < n) : Sing n A B C k (A k * C k) (B k * C k) (A k * A k + B k * B k) ∧ abvS n A B C (A k * C k) (B k * C k) (A k * A k + B k * B k) = paS n A B C k := by
  have hs : Sing n A B C k (A k * C k) (B k * C k) (A k * A k + B k * B k) := sing_of hU hM hk (sq_pos (hN k hk)) (by unfold ht; grind) (fun i hi => absurd hi (Nat.not_lt_zero i))
  refine ⟨hs, ?_⟩
  have hpar : ∀ a b, a < n → b < n → cr A B a b = 0 := by
    intro a b ha hb
    apply Classical.byContradiction
    intro c
    obtain ⟨i, hi, -⟩ := hM.2.2 a b trivial ha hb c
    exact absurd hi (Nat.not_lt_zero i)
  have hsq := sq_pos (hN k hk)
  have hm0 : pmine A B k ≠ 0 := by
    intro z
    have h1 := mine_id1 (hpar k 0 hk (by omega)) z
    have h2 := mine_id2 (hpar k 0 hk (by omega)) z
    have := sq_pos (hN 0 (by omega))
    refine hN k hk ⟨?_, ?_⟩
    · rcases Int.mul_eq_zero.mp h1 with w | w <;> omega
    · rcases Int.mul_eq_zero.mp h2 with w | w <;> omega
  apply Nat.eq_of_testBit_eq
  intro j
  rw [Bool.eq_iff_iff, abvS_t]
  unfold paS
  rw [bset_test, Bool.and_eq_true, decide_eq_true_eq, decide_eq_true_eq]
  have key : ∀ j, j < n → (0 < ht A B C j (A k * C k) (B k * C k) (A k * A k + B k * B k) ↔ 0 < (C k * pmine A B j - C j * pmine A B k) * sg (pmine A B k)) := by
    intro j hj
    rw [← mul_sg_pos hm0]
    have e : ht A B C j (A k * C k) (B k * C k) (A k * A k + B k * B k) * pmine A B k = (A k * A k + B k * B k) * (C k * pmine A B j - C j * pmine A B k) := par_id (hpar j k hj hk)
    rw [e, Int.mul_assoc, pos_mul_iff hsq]
  constructor
  · rintro ⟨h1, h2⟩
    refine ⟨h1, ?_, (key j h1).mp h2⟩
    intro z
    subst z
    rw [hs.2.2.1] at h2
    omega
  · rintro ⟨h1, -, h2⟩
    exact ⟨h1, (key j h1).mpr h2⟩
end RR2

