/-! ===== .. and they are the ROOMS ===== -/
section RR2
variable {n : Nat} {A B C : Nat → Int} {la lb lc : Nat → Int32} {N : Nat} {K : Nat} {X Y D : Nat → Int} {x' y' d' : Nat → Int32}
theorem crz {A B : Nat → Int} {a b : Nat} (h : cr A B a b ≠ 0) : B a * A b - A a * B b ≠ 0 := by
  unfold cr at h
  have := Int.mul_comm (A b) (B a)
  omega
theorem sgmul {w z : Int} (hw : w = 1 ∨ w = -1) : 0 < w * sg z ↔ 0 < w * z := by
  have h1 := sg_pos (z := z)
  have h2 := sg_neg (z := z)
  rcases hw with e | e <;> rw [e] <;> omega
theorem al_sing (hU : LU n A B C) (hM : MSp n A B C K X Y D) {i b : Nat} (hi : i < K) (hb : b < n) (h0 : ht A B C b (X i) (Y i) (D i) = 0) {w : Int} (hw : w = 1 ∨ w = -1) : ∃ x y d, Sing n A B C b x y d ∧ abvS n A B C x y d = alS n A B C (X i) (Y i) (D i) b w := by
  obtain ⟨hr, -⟩ := hM.1 i hi
  obtain ⟨T, hT, hT2⟩ := near_ex n A B C (X i) (Y i) (D i) (-(w * B b)) (w * A b)
  have hsh : ∀ k, ht A B C k ((T : Int) * X i + -(w * B b)) ((T : Int) * Y i + w * A b) ((T : Int) * D i) = (T : Int) * ht A B C k (X i) (Y i) (D i) + w * (B k * A b - A k * B b) := by
    intro k
    rw [ht_shift]
    grind
  have key : ∀ k, k < n → k ≠ b → ht A B C k ((T : Int) * X i + -(w * B b)) ((T : Int) * Y i + w * A b) ((T : Int) * D i) ≠ 0 ∧ (0 < ht A B C k ((T : Int) * X i + -(w * B b)) ((T : Int) * Y i + w * A b) ((T : Int) * D i) ↔ 0 < alg A B C (X i) (Y i) (D i) b w k) := by
    intro k hk e
    unfold alg
    by_cases c : ht A B C k (X i) (Y i) (D i) = 0
    · rw [if_pos c, hsh, c, sgmul hw]
      obtain ⟨c1, -, -⟩ := two_on hU hk hb e hr.1 c h0
      have c2 := crz c1
      constructor
      · rcases hw with z | z <;> rw [z] <;> omega
      · rw [Int.mul_zero, Int.zero_add]
    · rw [if_neg c, sg_pos]
      have h2 := hT2 k hk
      rcases Int.lt_trichotomy (ht A B C k (X i) (Y i) (D i)) 0 with z | z | z
      · have := h2.2 z; omega
      · exact absurd z c
      · have := h2.1 z; omega
  refine ⟨_, _, _, ⟨hb, Int.mul_pos (by omega) hr.1, ?_, fun k hk e => (key k hk e).1⟩, ?_⟩
  · rw [hsh, h0]
    have : B b * A b - A b * B b = 0 := by rw [Int.mul_comm]; omega
    rw [this]
    simp
  · apply Nat.eq_of_testBit_eq
    intro k
    rw [Bool.eq_iff_iff, abvS_t, alS_t]
    by_cases e : k = b
    · subst e
      constructor
      · rintro ⟨-, z⟩
        rw [hsh, h0] at z
        have : B k * A k - A k * B k = 0 := by rw [Int.mul_comm]; omega
        rw [this] at z
        simp at z
      · rintro ⟨-, z, -⟩
        exact absurd rfl z
    · constructor
      · rintro ⟨z1, z2⟩
        exact ⟨z1, e, (key k z1 e).2.mp z2⟩
      · rintro ⟨z1, -, z2⟩
        exact ⟨z1, (key k z1 e).2.mpr z2⟩
theorem max_ex {P : Nat → Prop} : ∀ n, (∃ j, j < n ∧ P j) → ∃ k, k < n ∧ P k ∧ ∀ j, k < j → j < n → ¬ P j := by
  intro n
  induction n with
  | zero => rintro ⟨j, h, -⟩; omega
  | succ n ih =>
    rintro ⟨j, hj, pj⟩
    by_cases c : P n
    · exact ⟨n, by omega, c, fun i h1 h2 => by omega⟩
    · have hjn : j ≠ n := fun z => c (z ▸ pj)
      obtain ⟨k, hk, pk, hm⟩ := ih ⟨j, by omega, pj⟩
      refine ⟨k, by omega, pk, fun i h1 h2 => ?_⟩
      by_cases e : i = n
      · subst e; exact c
      · exact hm i h1 (by omega)
theorem min_ex {P : Nat → Prop} : ∀ n, (∃ j, j < n ∧ P j) → ∃ k, k < n ∧ P k ∧ ∀ j, j < k → ¬ P j := by
  intro n
  induction n with
  | zero => rintro ⟨j, h, -⟩; omega
  | succ n ih =>
    rintro ⟨j, hj, pj⟩
    by_cases c : ∃ j, j < n ∧ P j
    · obtain ⟨k, hk, pk, hm⟩ := ih c
      exact ⟨k, by omega, pk, hm⟩
    · have : j = n := by
        rcases Nat.lt_or_ge j n with z | z
        · exact absurd ⟨j, z, pj⟩ c
        · omega
      subst this
      exact ⟨j, by omega, pj, fun i hi pi => c ⟨i, hi, pi⟩⟩
/-- the nearest MEET along a LINE -/
theorem nearest (hU : LU n A B C) (hM : MSp n A B C K X Y D) {b : Nat} {x y d : Int} (h : Sing n A B C b x y d) (hex : ∃ i, i < K ∧ ht A B C b (X i) (Y i) (D i) = 0) : ∃ i, i < K ∧ ht A B C b (X i) (Y i) (D i) = 0 ∧ ∀ k, k < n → ¬ ht A B C k (X i) (Y i) (D i) * ht A B C k x y d < 0 := by
  by_cases c : ∃ i, i < K ∧ (ht A B C b (X i) (Y i) (D i) = 0 ∧ lt3 (X i) (Y i) (D i) x y d)
  · obtain ⟨i, hi, ⟨h1, h2⟩, hm⟩ := max_ex K c
    refine ⟨i, hi, h1, fun k hk hs => ?_⟩
    obtain ⟨j, hj, hjb, ⟨c1, c2⟩ | ⟨c1, c2⟩⟩ := between hU hM h.1 hk (hM.1 i hi).1.1 h.2.1 h1 h.2.2.1 hs
    · have hij : i < j := by
        rcases Nat.lt_trichotomy i j with z | z | z
        · exact z
        · subst z; exact absurd c1 (fun z => lt3_irr z ⟨rfl, rfl⟩)
        · exact absurd (hM.2.1 j i z hi) (fun z => lt3_asy c1 z)
      exact hm j hij hj ⟨hjb, c2⟩
    · have := lt3_tr h.2.1 (hM.1 j hj).1.1 (hM.1 i hi).1.1 c1 c2
      exact lt3_asy this h2
  · obtain ⟨i, hi, h1, hm⟩ := min_ex K hex
    have h2 : lt3 x y d (X i) (Y i) (D i) := by
      rcases lt3_tri (X i) (Y i) (D i) x y d with z | z | z
      · exact absurd ⟨i, hi, h1, z⟩ c
      · exact absurd z (sing_ne hM h hi)
      · exact z
    refine ⟨i, hi, h1, fun k hk hs => ?_⟩
    obtain ⟨j, hj, hjb, ⟨c1, c2⟩ | ⟨c1, c2⟩⟩ := between hU hM h.1 hk (hM.1 i hi).1.1 h.2.1 h1 h.2.2.1 hs
    · exact c ⟨j, hj, hjb, c2⟩
    · have hij : j < i := by
        rcases Nat.lt_trichotomy i j with z | z | z
        · exact absurd (hM.2.1 i j z hj) (fun z => lt3_asy c2 z)
        · subst z; exact absurd c2 (fun z => lt3_irr z ⟨rfl, rfl⟩)
        · exact z
      exact hm j hij hjb
theorem pos_mul_iff {a b : Int} (ha : 0 < a) : 0 < a * b ↔ 0 < b := by
  constructor
  · intro h; rcases pos_of_mul h with ⟨a1, a2⟩ | ⟨a1, a2⟩ <;> omega
  · intro h; exact Int.mul_pos ha h
theorem sing_al (hN : ∀ j, j < n → ¬ (A j = 0 ∧ B j = 0)) (hU : LU n A B C) (hM : MSp n A B C K X Y D) {b : Nat} {x y d : Int} (h : Sing n A B C b x y d) (hex : ∃ i, i < K ∧ ht A B C b (X i) (Y i) (D i) = 0) : ∃ i w, i < K ∧ ht A B C b (X i) (Y i) (D i) = 0 ∧ (w = 1 ∨ w = -1) ∧ abvS n A B C x y d = alS n A B C (X i) (Y i) (D i) b w := by
  obtain ⟨i, hi, h1, hsg⟩ := nearest hU hM h hex
  obtain ⟨hr, p, q, -, hat⟩ := hM.1 i hi
  have hsq := sq_pos (hN b h.1)
  obtain ⟨lam, hlam⟩ : ∃ z, z = pos A B b x y * D i - pos A B b (X i) (Y i) * d := ⟨_, rfl⟩
  obtain ⟨nn, hnn⟩ : ∃ z, z = A b * A b + B b * B b := ⟨_, rfl⟩
  rw [← hnn] at hsq
  have hid : ∀ k, nn * (ht A B C k x y d * D i - ht A B C k (X i) (Y i) (D i) * d) = (B k * A b - A k * B b) * lam := by
    intro k
    rw [hnn, hlam]
    exact along_id (p := A k) (q := B k) (e := C k) h.2.2.1 h1
  have hl0 : lam ≠ 0 := by
    intro z
    have hz : ∀ k, ht A B C k (X i) (Y i) (D i) = 0 → ht A B C k x y d = 0 := by
      intro k hk
      have := hid k
      rw [z, hk, Int.mul_zero, Int.zero_mul, Int.sub_zero] at this
      rcases Int.mul_eq_zero.mp this with w | w
      · omega
      · rcases Int.mul_eq_zero.mp w with w | w
        · exact w
        · have := hr.1; omega
    by_cases ea : p = b
    · by_cases eb : q = b
      · subst ea; subst eb
        exact hat.2.2.1 (cr_self A B _)
      · exact h.2.2.2 q hat.2.1 eb (hz q hat.2.2.2.2)
    · exact h.2.2.2 p hat.1 ea (hz p hat.2.2.2.1)
  refine ⟨i, sgn1 lam, hi, h1, sgn1_or lam, ?_⟩
  apply Nat.eq_of_testBit_eq
  intro k
  rw [Bool.eq_iff_iff, abvS_t, alS_t]
  by_cases e : k = b
  · subst e
    constructor
    · rintro ⟨-, z⟩
      rw [h.2.2.1] at z
      omega
    · rintro ⟨-, z, -⟩
      exact absurd rfl z
  · have hk2 : k < n → (0 < ht A B C k x y d ↔ 0 < alg A B C (X i) (Y i) (D i) b (sgn1 lam) k) := by
      intro hk
      have hne := h.2.2.2 k hk e
      unfold alg
      by_cases c : ht A B C k (X i) (Y i) (D i) = 0
      · rw [if_pos c, sgmul (sgn1_or lam)]
        have := hid k
        rw [c, Int.zero_mul, Int.sub_zero] at this
        have e1 : nn * (ht A B C k x y d * D i) = (nn * D i) * ht A B C k x y d := by grind
        rw [e1] at this
        rw [← pos_mul_iff (Int.mul_pos hsq hr.1) (b := ht A B C k x y d), this, Int.mul_comm]
        unfold sgn1
        split
        · rename_i hl
          constructor
          · intro z
            rcases pos_of_mul z with ⟨a1, a2⟩ | ⟨a1, a2⟩ <;> omega
          · intro z
            exact Int.mul_pos_of_neg_of_neg hl (by omega)
        · rename_i hl
          constructor
          · intro z
            rcases pos_of_mul z with ⟨a1, a2⟩ | ⟨a1, a2⟩ <;> omega
          · intro z
            exact Int.mul_pos (by omega) (by omega)
      · rw [if_neg c, sg_pos]
        have hs := hsg k hk
        constructor
        · intro z
          rcases Int.lt_trichotomy (ht A B C k (X i) (Y i) (D i)) 0 with w | w | w
          · exact absurd (Int.mul_neg_of_neg_of_pos w z) hs
          · exact absurd w c
          · exact w
        · intro z
          rcases Int.lt_trichotomy (ht A B C k x y d) 0 with w | w | w
          · exact absurd (Int.mul_neg_of_pos_of_neg z w) hs
          · exact absurd w hne
          · exact w
    constructor
    · rintro ⟨z1, z2⟩
      exact ⟨z1, e, (hk2 z1).mp z2⟩
    · rintro ⟨z1, -, z2⟩
      exact ⟨z1, (hk2 z1).mpr z2⟩
/-- where some cross, each LINE is crossed -/
theorem all_crossed (hN : ∀ j, j < n → ¬ (A j = 0 ∧ B j = 0)) (hM : MSp n A B C K X Y D) (hK : 0 < K) {k : Nat} (hk : k < n) : ∃ i, i < K ∧ ht A B C k (X i) (Y i) (D i) = 0 := by
  obtain ⟨-, a, b, -, ha, hb, hab, -, -⟩ := hM.1 0 hK
  by_cases c : cr A B k a = 0
  · by_cases c2 : cr A B k b = 0
    · exfalso
      have g1 : A k * cr A B a b = 0 := by unfold cr at *; grind
      have g2 : B k * cr A B a b = 0 := by unfold cr at *; grind
      refine hN k hk ⟨?_, ?_⟩
      · rcases Int.mul_eq_zero.mp g1 with z | z
        · exact z
        · exact absurd z hab
      · rcases Int.mul_eq_zero.mp g2 with z | z
        · exact z
        · exact absurd z hab
    · obtain ⟨i, hi, hat⟩ := hM.2.2 k b trivial hk hb c2
      exact ⟨i, hi, hat.2.2.2.1⟩
  · obtain ⟨i, hi, hat⟩ := hM.2.2 k a trivial hk ha c
    exact ⟨i, hi, hat.2.2.2.1⟩
/-! no LINES cross -/
def pmine (A B : Nat → Int) (k : Nat) : Int := A k * A 0 + B k * B 0
noncomputable def paS (n : Nat) (A B C : Nat → Int) (k : Nat) : Nat := bset (fun j => decide (j ≠ k ∧ 0 < (C k * pmine A B j - C j * pmine A B k) * sg (pmine A B k))) n
theorem par_id {aj bj cj ak bk ck a0 b0 : Int} (h : aj * bk - ak * bj = 0) : (aj * (ak * ck) + bj * (bk * ck) - cj * (ak * ak + bk * bk)) * (ak * a0 + bk * b0) = (ak * ak + bk * bk) * (ck * (aj * a0 + bj * b0) - cj * (ak * a0 + bk * b0)) := by grind
theorem mine_id1 {ak bk a0 b0 : Int} (h : ak * b0 - a0 * bk = 0) (h2 : ak * a0 + bk * b0 = 0) : (a0 * a0 + b0 * b0) * ak = 0 := by grind
theorem mine_id2 {ak bk a0 b0 : Int} (h : ak * b0 - a0 * bk = 0) (h2 : ak * a0 + bk * b0 = 0) : (a0 * a0 + b0 * b0) * bk = 0 := by grind
theorem mul_sg_pos {u v : Int} (hv : v ≠ 0) : 0 < u * v * sg v ↔ 0 < u := by
  have h1 := @sg_pos v
  have h2 := @sg_neg v
  rcases Int.lt_trichotomy v 0 with c | c | c
  · have e : sg v = -1 := by rcases sg_cases v with z | z | z <;> omega
    rw [e]
    constructor
    · intro z
      have : u * v < 0 := by omega
      rcases neg_of_mul this with ⟨a1, a2⟩ | ⟨a1, a2⟩ <;> omega
    · intro z
      have := Int.mul_neg_of_pos_of_neg z c
      omega
  · exact absurd c hv
  · have e : sg v = 1 := by rcases sg_cases v with z | z | z <;> omega
    rw [e, Int.mul_one]
    constructor
    · intro z
      rcases pos_of_mul z with ⟨a1, a2⟩ | ⟨a1, a2⟩ <;> omega
    · intro z
      exact Int.mul_pos z c
theorem par_sing (hN : ∀ j, j < n → ¬ (A j = 0 ∧ B j = 0)) (hU : LU n A B C) (hM : MSp n A B C 0 X Y D) {k : Nat} (hk : k < n) : Sing n A B C k (A k * C k) (B k * C k) (A k * A k + B k * B k) ∧ abvS n A B C (A k * C k) (B k * C k) (A k * A k + B k * B k) = paS n A B C k := by
  have hs : Sing n A B C k (A k * C k) (B k * C k) (A k * A k + B k * B k) := sing_of hU hM hk (sq_pos (hN k hk)) (by unfold ht; grind) (fun i hi => absurd hi (Nat.not_lt_zero i))
  refine ⟨hs, ?_⟩
  have hpar : ∀ a b, a < n → b < n → cr A B a b = 0 := by
    intro a b ha hb
    apply Classical.byContradiction
    intro c
    obtain ⟨i, hi, -⟩ := hM.2.2 a b trivial ha hb c
    exact absurd hi (Nat.not_lt_zero i)
  have hsq := sq_pos (hN k hk)
  have hm0 : pmine A B k ≠ 0 := by
    intro z
    have h1 := mine_id1 (hpar k 0 hk (by omega)) z
    have h2 := mine_id2 (hpar k 0 hk (by omega)) z
    have := sq_pos (hN 0 (by omega))
    refine hN k hk ⟨?_, ?_⟩
    · rcases Int.mul_eq_zero.mp h1 with w | w <;> omega
    · rcases Int.mul_eq_zero.mp h2 with w | w <;> omega
  apply Nat.eq_of_testBit_eq
  intro j
  rw [Bool.eq_iff_iff, abvS_t]
  unfold paS
  rw [bset_test, Bool.and_eq_true, decide_eq_true_eq, decide_eq_true_eq]
  have key : ∀ j, j < n → (0 < ht A B C j (A k * C k) (B k * C k) (A k * A k + B k * B k) ↔ 0 < (C k * pmine A B j - C j * pmine A B k) * sg (pmine A B k)) := by
    intro j hj
    rw [← mul_sg_pos hm0]
    have e : ht A B C j (A k * C k) (B k * C k) (A k * A k + B k * B k) * pmine A B k = (A k * A k + B k * B k) * (C k * pmine A B j - C j * pmine A B k) := par_id (hpar j k hj hk)
    rw [e, Int.mul_assoc, pos_mul_iff hsq]
  constructor
  · rintro ⟨h1, h2⟩
    refine ⟨h1, ?_, (key j h1).mp h2⟩
    intro z
    subst z
    rw [hs.2.2.1] at h2
    omega
  · rintro ⟨h1, -, h2⟩
    exact ⟨h1, (key j h1).mpr h2⟩
theorem r_paset (hD : LD n A B C la lb lc) (hR : LR n A B C) (hN : 70000 ≤ N) {k : Nat} (hk : k < n) (Kc : Int32 → Option FR5) : fX5_findRooms_b217 N (nI n) la lb lc (nI k) (iI (pmine A B k)) Kc N 0 0 = Kc (nI (paS n A B C k)) := by
  have hn := hR.1
  refine loop_it (fun f j (s : Nat) => fX5_findRooms_b217 N (nI n) la lb lc (nI k) (iI (pmine A B k)) Kc f (nI s) (nI j)) (fun s => Kc (nI s)) (fun j s => if decide (j ≠ k ∧ 0 < (C k * pmine A B j - C j * pmine A B k) * sg (pmine A B k)) then s ||| 2 ^ j else s) n ?_ ?_ (by omega) 0
  · intro f s
    show fX5_findRooms_b217 N (nI n) la lb lc (nI k) (iI (pmine A B k)) Kc (f + 1) (nI s) (nI n) = _
    rw [fX5_findRooms_b217.eq_2, if_pos (nI_le' (by omega) (Nat.le_refl n))]
  · intro f j s hj
    show fX5_findRooms_b217 N (nI n) la lb lc (nI k) (iI (pmine A B k)) Kc (f + 1) (nI s) (nI j) = fX5_findRooms_b217 N (nI n) la lb lc (nI k) (iI (pmine A B k)) Kc f (nI _) (nI (j + 1))
    have e0 : nI s ||| 0 = nI s := by rw [show (0 : Int32) = nI 0 from rfl, nI_or, Nat.or_zero]
    obtain ⟨a1, a2, a3⟩ := hD j hj
    obtain ⟨a4, a5, a6⟩ := hD 0 (by omega)
    obtain ⟨a7, a8, a9⟩ := hD k hk
    obtain ⟨r1, r2, r3, -⟩ := hR.2 j hj
    obtain ⟨q1, q2, q3, -⟩ := hR.2 0 (by omega)
    obtain ⟨t1, t2, t3, -⟩ := hR.2 k hk
    have m1 := mb r1 q1; have m2 := mb r2 q2; have m3 := mb t1 q1; have m4 := mb t2 q2
    have b1 : (pmine A B j).natAbs ≤ 162 := by unfold pmine; omega
    have b2 : (pmine A B k).natAbs ≤ 162 := by unfold pmine; omega
    have m5 := mb t3 b1; have m6 := mb r3 b2
    have hsm : sm ((C k * pmine A B j - C j * pmine A B k) * sg (pmine A B k)) := by
      rcases sg_cases (pmine A B k) with z | z | z <;> rw [z] <;> unfold sm <;> omega
    rw [fX5_findRooms_b217.eq_2, if_neg (nI_nle' (by omega) hj), rd_9 (by omega), show (0 : Int32) = nI 0 from rfl, rd_9 (by omega), rd_9 (by omega), rd_9 (by omega), show nI 0 = (0 : Int32) from rfl, a1, a2, a4, a5, iI_mul, iI_mul, iI_add, nm_s, nI_1, e0]
    by_cases c : j = k
    · rw [if_pos (by rw [c]), decide_eq_false (fun z => z.1 c), if_neg (by decide)]
    · rw [if_neg (by rw [nI_eq (by omega) (by omega)]; exact c), rd_9 (by omega), rd_9 (by omega), r_sign N (sm_of b2), bd_s, a9, a3, show A j * A 0 + B j * B 0 = pmine A B j from rfl, iI_mul, iI_mul, iI_sub, iI_mul]
      by_cases c2 : 0 < (C k * pmine A B j - C j * pmine A B k) * sg (pmine A B k)
      · rw [if_neg (by rw [iI_le0 hsm]; omega), m_shl (by omega), nI_or, nm_s, decide_eq_true ⟨c, c2⟩, if_pos rfl]
      · rw [if_pos (by rw [iI_le0 hsm]; omega), decide_eq_false (fun z => c2 z.2), if_neg (by decide)]
theorem r_b169 (hD : LD n A B C la lb lc) (hR : LR n A B C) (hU : LU n A B C) (hM : MSp n A B C 0 X Y D) (hN : 70000 ≤ N) {M : Nat → Prop} {r : Nat → Int32} (h : Mr M r) :
    ∃ r', Mr (fun s => M s ∨ ∃ k, k < n ∧ (s = paS n A B C k ∨ s = paS n A B C k ||| 2 ^ k)) r' ∧ fX5_findRooms_b169 N (nI n) la lb lc (nI 0) x' y' d' N 0 r = some (nI 0, x', y', d', r') := by
  have hn := hR.1
  obtain ⟨r', p1, e⟩ := loop_ex (fun f i (s : Nat → Int32) => fX5_findRooms_b169 N (nI n) la lb lc (nI 0) x' y' d' f (nI i) s) (fun r' => some (nI 0, x', y', d', r')) n
    (fun j r => Mr (fun s => M s ∨ ∃ k, k < j ∧ (s = paS n A B C k ∨ s = paS n A B C k ||| 2 ^ k)) r)
    (fun f s hp => by rw [fX5_findRooms_b169.eq_2, if_pos (nI_le' (by omega) (Nat.le_refl n))])
    (fun f k r hk hp => by
      have h1 : paS n A B C k < 512 := lt512 (bset_lt _ _) hn
      have h2 := or_lt h1 (pw_lt hk hn)
      obtain ⟨a7, a8, a9⟩ := hD k hk
      obtain ⟨a4, a5, a6⟩ := hD 0 (by omega)
      rw [fX5_findRooms_b169.eq_2, if_neg (nI_nle' (by omega) hk), if_pos (show nI 0 = 0 from rfl), rd_9 (by omega), show (0 : Int32) = nI 0 from rfl, rd_9 (by omega), rd_9 (by omega), rd_9 (by omega), show nI 0 = (0 : Int32) from rfl, a7, a8, a4, a5, iI_mul, iI_mul, iI_add, nm_s, show A k * A 0 + B k * B 0 = pmine A B k from rfl, r_paset hD hR hN hk, ck_512 h1, m_shl (by omega), nI_or, ck_512 h2, nI_clamp (by omega), nI_clamp (by omega), nar1, nI_1]
      refine ⟨_, Mr_cong (Mr_upd (Mr_upd hp _) _) (fun s => ?_), rfl⟩
      constructor
      · rintro (((z | ⟨b, hb, z⟩) | z) | z)
        · exact Or.inl z
        · exact Or.inr ⟨b, by omega, z⟩
        · exact Or.inr ⟨k, by omega, Or.inl z⟩
        · exact Or.inr ⟨k, by omega, Or.inr z⟩
      · rintro (z | ⟨b, hb, z⟩)
        · exact Or.inl (Or.inl (Or.inl z))
        · by_cases e : b = k
          · subst e
            rcases z with z | z
            · exact Or.inl (Or.inr z)
            · exact Or.inr z
          · exact Or.inl (Or.inl (Or.inr ⟨b, by omega, z⟩)))
    n N 0 r (by omega) (by omega) (Mr_cong h (fun s => ⟨Or.inl, fun z => z.elim id (fun ⟨b, hb, _⟩ => absurd hb (Nat.not_lt_zero b))⟩))
  exact ⟨r', p1, e⟩
theorem r_init (hn : n ≤ 9) (hN : 70000 ≤ N) (Kc : (Nat → Int32) → Option FR5) (r : Nat → Int32) : ∃ r', Mr (fun s => s = 0 ∧ n = 0) r' ∧ fX5_findRooms_b6 N (nI n) Kc N 0 r = Kc r' := by
  obtain ⟨r', p1, e⟩ := loop_ex (fun f j (s : Nat → Int32) => fX5_findRooms_b6 N (nI n) Kc f (nI j) s) Kc 512 (fun j r => ∀ s, s < j → ((s = 0 ∧ n = 0) → r s = 1) ∧ (¬ (s = 0 ∧ n = 0) → r s = 0))
    (fun f s hp => by rw [fX5_findRooms_b6.eq_2, if_pos c512'])
    (fun f j r hj hp => by
      rw [fX5_findRooms_b6.eq_2, if_neg (c512 hj), ck_512 hj, nI_1, nI_clamp (by omega), nar1, nar0, ck_512 hj]
      by_cases c : j = 0
      · subst c
        rw [if_pos (show nI 0 = 0 from rfl)]
        by_cases c2 : n = 0
        · rw [if_pos (by rw [c2]; rfl)]
          refine ⟨_, fun s hs => ?_, rfl⟩
          obtain rfl : s = 0 := by omega
          rw [up_s]
          exact ⟨fun _ => rfl, fun z => absurd ⟨rfl, c2⟩ z⟩
        · rw [if_neg (by rw [z_nI, nI_eq (by omega) (by omega)]; exact c2)]
          refine ⟨_, fun s hs => ?_, rfl⟩
          obtain rfl : s = 0 := by omega
          rw [up_s]
          exact ⟨fun z => absurd z.2 c2, fun _ => rfl⟩
      · rw [if_neg (by rw [z_nI, nI_eq (by omega) (by omega)]; exact c)]
        refine ⟨_, fun s hs => ?_, rfl⟩
        by_cases e : s = j
        · subst e
          rw [up_s]
          exact ⟨fun z => absurd z.1 c, fun _ => rfl⟩
        · rw [up_n e]
          exact hp s (by omega))
    512 N 0 r (by omega) (by omega) (fun i hi => absurd hi (Nat.not_lt_zero i))
  exact ⟨r', p1, e⟩
theorem r_findRooms (hD : LD n A B C la lb lc) (hR : LR n A B C) (hU : LU n A B C) (hN : 70000 ≤ N) (hM : MSp n A B C K X Y D) (hK : K ≤ 36) (k0 : Int32) (x0 y0 d0 r0 : Nat → Int32) :
    ∃ x' y' d' r', Rp K X Y D x' y' d' ∧ (∀ s, s < 512 → r' s = b01 (rB n A B C s)) ∧ fX5_findRooms N (nI n) la lb lc k0 x0 y0 d0 r0 = some (nI K, x', y', d', r') := by
  have hn := hR.1
  have hN0 := LR_n0 hR
  obtain ⟨x', y', d', hP, e⟩ := r_findMeets hD hR hN hM k0 x0 y0 d0
  rw [fX5_findRooms.eq_1, e, bd_s]
  obtain ⟨r1, q1, q2⟩ := r_init (N := N) hn hN (fun (d_r_796 : Nat → Int32) => fX5_findRooms_b43 N (nI n) la lb lc (nI K) x' y' d' (fun (d_r_797 : Nat → Int32) => fX5_findRooms_b169 N (nI n) la lb lc (nI K) x' y' d' N 0 d_r_797) N 0 d_r_796) r0
  dsimp only
  rw [q2]
  obtain ⟨r2, w1, w2⟩ := r_b43 hD hR hM hP hK hN (fun (d_r_797 : Nat → Int32) => fX5_findRooms_b169 N (nI n) la lb lc (nI K) x' y' d' N 0 d_r_797) q1
  rw [w2]
  have fin : ∀ r3, Mr (fun s => Real n A B C s) r3 → ∀ s, s < 512 → r3 s = b01 (rB n A B C s) := by
    intro r3 h3 s hs
    rcases hb : rB n A B C s with _ | _
    · exact (h3 s hs).2 (fun z => by rw [rB_t.mpr z] at hb; cases hb)
    · exact (h3 s hs).1 (rB_t.mp hb)
  by_cases hk : K = 0
  · subst hk
    obtain ⟨r3, t1, t2⟩ := r_b169 (x' := x') (y' := y') (d' := d') hD hR hU hM hN w1
    refine ⟨x', y', d', r3, hP, fin r3 (Mr_cong t1 (fun s => ?_)), t2⟩
    by_cases hz : n = 0
    · subst hz
      rw [real_0]
      constructor
      · rintro ((z | ⟨i, _, _, hi, _⟩) | ⟨k, hk, _⟩)
        · exact z.1
        · exact absurd hi (Nat.not_lt_zero i)
        · exact absurd hk (Nat.not_lt_zero k)
      · intro z
        exact Or.inl (Or.inl ⟨z, rfl⟩)
    · rw [real_iff hN0 hU (by omega)]
      constructor
      · rintro ((z | ⟨i, _, _, hi, _⟩) | ⟨k, hk, z⟩)
        · exact absurd z.2 hz
        · exact absurd hi (Nat.not_lt_zero i)
        · obtain ⟨g1, g2⟩ := par_sing hN0 hU hM hk
          rw [← g2] at z
          exact ⟨k, hk, _, _, _, g1, z⟩
      · rintro ⟨k, hk, x, y, d, h1, h2⟩
        obtain ⟨g1, g2⟩ := par_sing hN0 hU hM hk
        have g3 := same_gap hU hM h1 g1 (fun i hi => absurd hi (Nat.not_lt_zero i))
        rw [g3, g2] at h2
        exact Or.inr ⟨k, hk, h2⟩
  · have hn0 : 0 < n := by
      obtain ⟨-, a, b, -, ha, -⟩ := hM.1 0 (by omega)
      omega
    refine ⟨x', y', d', r2, hP, fin r2 (Mr_cong w1 (fun s => ?_)), ?_⟩
    · rw [real_iff hN0 hU hn0]
      constructor
      · rintro (z | ⟨i, b, w, hi, hb, h0, hw, z⟩)
        · omega
        · obtain ⟨x, y, d, g1, g2⟩ := al_sing hU hM hi hb h0 hw
          refine ⟨b, hb, x, y, d, g1, ?_⟩
          rw [g2]
          exact z
      · rintro ⟨k, hk, x, y, d, h1, h2⟩
        obtain ⟨i, w, hi, h0, hw, g⟩ := sing_al hN0 hU hM h1 (all_crossed hN0 hM (by omega) hk)
        right
        refine ⟨i, k, w, hi, hk, h0, hw, ?_⟩
        unfold A2
        rw [← g]
        exact h2
    · obtain ⟨f, rfl⟩ : ∃ f, N = f + 1 := ⟨N - 1, by omega⟩
      rw [fX5_findRooms_b169.eq_2, if_neg (by rw [z_nI]; exact nI_nle' (by omega) hn0), if_neg (by rw [z_nI, nI_eq (by omega) (by omega)]; exact hk)]
end RR2
