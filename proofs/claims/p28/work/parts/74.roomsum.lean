/-! ===== a ROOM with its LINES turned towards it; the sums ===== -/
section RS
variable {n : Nat} {A B C : Nat → Int} {K : Nat} {X Y D : Nat → Int}
def sgS (s j : Nat) : Int := if s.testBit j then 1 else -1
theorem sgS_or (s j : Nat) : sgS s j = 1 ∨ sgS s j = -1 := by unfold sgS; split <;> simp
theorem sgS_sq (s j : Nat) : sgS s j * sgS s j = 1 := by rcases sgS_or s j with h | h <;> rw [h] <;> rfl
def tnd (s : Nat) (A : Nat → Int) (j : Nat) : Int := sgS s j * A j
theorem tnd_ht (s : Nat) (A B C : Nat → Int) (j : Nat) (x y d : Int) : ht (tnd s A) (tnd s B) (tnd s C) j x y d = sgS s j * ht A B C j x y d := by
  unfold ht tnd
  grind
theorem tnd_cr (s : Nat) (A B : Nat → Int) (i j : Nat) : cr (tnd s A) (tnd s B) i j = sgS s i * sgS s j * cr A B i j := by
  unfold cr tnd
  grind
theorem sgS_mul0 {s j : Nat} {z : Int} : sgS s j * z = 0 ↔ z = 0 := by
  rcases sgS_or s j with h | h <;> rw [h] <;> omega
theorem tnd_ht0 (s : Nat) (A B C : Nat → Int) (j : Nat) (x y d : Int) : ht (tnd s A) (tnd s B) (tnd s C) j x y d = 0 ↔ ht A B C j x y d = 0 := by rw [tnd_ht, sgS_mul0]
theorem tnd_cr0 (s : Nat) (A B : Nat → Int) (i j : Nat) : cr (tnd s A) (tnd s B) i j = 0 ↔ cr A B i j = 0 := by
  rw [tnd_cr, Int.mul_assoc, sgS_mul0, sgS_mul0]
theorem tnd_N {s : Nat} (hN : ∀ j, j < n → ¬ (A j = 0 ∧ B j = 0)) : ∀ j, j < n → ¬ (tnd s A j = 0 ∧ tnd s B j = 0) := by
  intro j hj
  unfold tnd
  rw [sgS_mul0, sgS_mul0]
  exact hN j hj
theorem sg_can {s i j : Nat} {a b a' b' : Int} (h : sgS s i * a * (sgS s j * b') = sgS s i * b * (sgS s j * a')) : a * b' = b * a' := by
  have e1 : sgS s i * a * (sgS s j * b') = sgS s i * (sgS s j * (a * b')) := by grind
  have e2 : sgS s i * b * (sgS s j * a') = sgS s i * (sgS s j * (b * a')) := by grind
  rw [e1, e2] at h
  rcases sgS_or s i with h1 | h1 <;> rcases sgS_or s j with h2 | h2 <;> rw [h1, h2] at h <;> omega
theorem tnd_U {s : Nat} (hU : LU n A B C) : LU n (tnd s A) (tnd s B) (tnd s C) := by
  intro i j hi hj h
  obtain ⟨h1, h2, h3⟩ := h
  exact hU i j hi hj ⟨sg_can h1, sg_can h2, sg_can h3⟩
theorem tnd_At {s a b : Nat} {x y d : Int} : At n (tnd s A) (tnd s B) (tnd s C) a b x y d ↔ At n A B C a b x y d := by
  unfold At
  rw [tnd_ht0, tnd_ht0, Ne, Ne, tnd_cr0]
theorem tnd_M {s : Nat} (hM : MSp n A B C K X Y D) : MSp n (tnd s A) (tnd s B) (tnd s C) K X Y D := by
  refine ⟨fun j hj => ?_, hM.2.1, fun a b q h1 h2 h3 => ?_⟩
  · obtain ⟨h1, a, b, q, h2⟩ := hM.1 j hj
    exact ⟨h1, a, b, q, tnd_At.mpr h2⟩
  · obtain ⟨j, hj, h4⟩ := hM.2.2 a b q h1 h2 (fun z => h3 ((tnd_cr0 s A B a b).mpr z))
    exact ⟨j, hj, tnd_At.mpr h4⟩
theorem tnd_NP {s : Nat} (h : NP n A B) : NP n (tnd s A) (tnd s B) := by
  obtain ⟨i, j, hi, hj, hc⟩ := h
  exact ⟨i, j, hi, hj, fun z => hc ((tnd_cr0 s A B i j).mp z)⟩
theorem tnd_cone {s : Nat} {u v : Int} : Cone n (tnd s A) (tnd s B) u v ↔ goes n A B s u v := by
  have e : ∀ j, tnd s A j * u + tnd s B j * v = sgS s j * (A j * u + B j * v) := by intro j; unfold tnd; grind
  constructor
  · intro h j hj
    have h1 := h j hj
    rw [e] at h1
    rcases hs : s.testBit j with _ | _
    · rw [okd_f hs]
      unfold sgS at h1
      rw [hs, if_neg (by decide)] at h1
      omega
    · rw [okd_t hs]
      unfold sgS at h1
      rw [hs, if_pos rfl] at h1
      omega
  · intro h j hj
    have h1 := h j hj
    rw [e]
    rcases hs : s.testBit j with _ | _
    · rw [okd_f hs] at h1
      unfold sgS
      rw [hs, if_neg (by decide)]
      omega
    · rw [okd_t hs] at h1
      unfold sgS
      rw [hs, if_pos rfl]
      omega
theorem tnd_cor (s : Nat) (x y d : Int) : Cn n (tnd s A) (tnd s B) (tnd s C) x y d ↔ corB n A B C s x y d = true := by
  unfold corB
  rw [bP_iff]
  unfold Cn
  constructor
  · intro h j hj
    have h1 := h j hj
    rw [tnd_ht] at h1
    unfold sgS at h1
    rcases hs : s.testBit j with _ | _
    · rw [hs, if_neg (by decide)] at h1
      rw [if_neg (by decide)]
      omega
    · rw [hs, if_pos rfl] at h1
      rw [if_pos rfl]
      omega
  · intro h j hj
    have h1 := h j hj
    rw [tnd_ht]
    unfold sgS
    rcases hs : s.testBit j with _ | _
    · rw [hs, if_neg (by decide)] at h1
      rw [if_neg (by decide)]
      omega
    · rw [hs, if_pos rfl] at h1
      rw [if_pos rfl]
      omega
/-- the points of a ROOM -/
theorem tnd_in {s : Nat} {x y d : Int} (ho : ∀ j, j < n → ht A B C j x y d ≠ 0) (e : s = abvS n A B C x y d) : ∀ j, j < n → 0 < ht (tnd s A) (tnd s B) (tnd s C) j x y d := by
  intro j hj
  rw [tnd_ht]
  have h1 := abv_iff e hj
  have h2 := ho j hj
  unfold sgS
  rcases hs : s.testBit j with _ | _
  · rw [if_neg (by decide)]
    have : ¬ 0 < ht A B C j x y d := fun z => by have := h1.mpr z; rw [hs] at this; cases this
    omega
  · rw [if_pos rfl]
    have := h1.mp hs
    omega
theorem in_tnd {s : Nat} (hs : s < 2 ^ n) {x y d : Int} (h : ∀ j, j < n → 0 < ht (tnd s A) (tnd s B) (tnd s C) j x y d) : (∀ j, j < n → ht A B C j x y d ≠ 0) ∧ s = abvS n A B C x y d := by
  have key : ∀ j, j < n → ht A B C j x y d ≠ 0 ∧ (s.testBit j = true ↔ 0 < ht A B C j x y d) := by
    intro j hj
    have h1 := h j hj
    rw [tnd_ht] at h1
    unfold sgS at h1
    rcases hsb : s.testBit j with _ | _
    · rw [hsb, if_neg (by decide)] at h1
      exact ⟨by omega, ⟨fun z => (by cases z), fun z => (by omega)⟩⟩
    · rw [hsb, if_pos rfl] at h1
      exact ⟨by omega, ⟨fun _ => by omega, fun _ => rfl⟩⟩
  refine ⟨fun j hj => (key j hj).1, ?_⟩
  apply Nat.eq_of_testBit_eq
  intro l
  rw [Bool.eq_iff_iff, abvS_t]
  by_cases c : l < n
  · rw [(key l c).2]
    exact ⟨fun z => ⟨c, z⟩, fun z => z.2⟩
  · rw [Nat.testBit_lt_two_pow (Nat.lt_of_lt_of_le hs (Nat.pow_le_pow_right (by omega) (by omega)))]
    exact ⟨fun z => absurd z (by decide), fun z => absurd z.1 c⟩
theorem sgS_flip {s k j : Nat} : sgS (s ^^^ 2 ^ k) j = if j = k then -sgS s j else sgS s j := by
  unfold sgS
  by_cases e : j = k
  · subst e
    rw [if_pos rfl, bit_xor']
    cases s.testBit j <;> rfl
  · rw [if_neg e, bit_xor e]
/-- a wall: the set with that LINE's side changed is a ROOM too -/
theorem wall_iff (hN : ∀ j, j < n → ¬ (A j = 0 ∧ B j = 0)) {s k : Nat} (hk : k < n) (hr : Real n A B C s) : Wl n (tnd s A) (tnd s B) (tnd s C) k ↔ Real n A B C (s ^^^ 2 ^ k) := by
  have hs := real_lt hr
  have hs2 : s ^^^ 2 ^ k < 2 ^ n := Nat.xor_lt_two_pow hs (Nat.pow_lt_pow_right (by omega) hk)
  obtain ⟨px, py, pd, ⟨hpd, ho⟩, e⟩ := hr
  have hP := tnd_in ho e
  constructor
  · rintro ⟨x, y, d, hd, h0, hj⟩
    have hsq := sq_pos (tnd_N (s := s) hN k hk)
    obtain ⟨x', y', d', hd', h1, h2⟩ := off_pt (A := tnd s A) (B := tnd s B) (C := tnd s C) n hd (-tnd s A k) (-tnd s B k)
    have hin : ∀ j, j < n → 0 < ht (tnd (s ^^^ 2 ^ k) A) (tnd (s ^^^ 2 ^ k) B) (tnd (s ^^^ 2 ^ k) C) j x' y' d' := by
      intro j hj'
      rw [tnd_ht, sgS_flip]
      by_cases ej : j = k
      · subst ej
        have h3 := h2 j h0
        rw [tnd_ht] at h3
        rw [if_pos rfl, Int.neg_mul, h3, Int.mul_neg, Int.mul_neg]
        omega
      · have h3 := (h1 j hj').1 (hj j hj' ej)
        rw [tnd_ht] at h3
        rw [if_neg ej]
        exact h3
    obtain ⟨q1, q2⟩ := in_tnd hs2 hin
    exact ⟨x', y', d', ⟨hd', q1⟩, q2⟩
  · rintro ⟨x, y, d, ⟨hd, ho2⟩, e2⟩
    have hP2 := tnd_in ho2 e2
    have hk1 : ht (tnd s A) (tnd s B) (tnd s C) k x y d < 0 := by
      have := hP2 k hk
      rw [tnd_ht, sgS_flip, if_pos rfl, Int.neg_mul] at this
      rw [tnd_ht]
      omega
    obtain ⟨u, v, w, hw, h0, hj⟩ := mid_ex hd hpd hk1 (hP k hk)
    refine ⟨u, v, w, hw, h0, fun j hj' ej => (hj j).1 ?_ (hP j hj')⟩
    have := hP2 j hj'
    rw [tnd_ht, sgS_flip, if_neg ej] at this
    rw [tnd_ht]
    exact this
theorem pc_n (hn : n ≤ 9) (p : Nat → Bool) : pc (bset p n) = rk p n := by
  unfold pc
  have h := rk_split (fun i => (bset p n).testBit i) n (9 - n)
  rw [show n + (9 - n) = 9 by omega] at h
  rw [h, rk_none (m := 9 - n), Nat.add_zero]
  · apply rk_cong
    intro i hi
    rw [bset_test, decide_eq_true hi, Bool.true_and]
  · intro i _
    rw [bset_test, decide_eq_false (by omega), Bool.false_and]
/-- walls and corners of a ROOM -/
theorem room_walls (hn : n ≤ 9) (hN : ∀ j, j < n → ¬ (A j = 0 ∧ B j = 0)) (hU : LU n A B C) (hM : MSp n A B C K X Y D) (hNP : NP n A B) {s : Nat} (hr : Real n A B C s) :
    0 < rk (corN n A B C X Y D s) K ∧ (bdd n A B s = true → pc (walS n A B C s) = rk (corN n A B C X Y D s) K) ∧ (bdd n A B s = false → pc (walS n A B C s) = rk (corN n A B C X Y D s) K + 1) := by
  obtain ⟨px, py, pd, ⟨hpd, ho⟩, e⟩ := id hr
  obtain ⟨h1, h2, h3⟩ := cnt_walls (tnd_N (s := s) hN) (tnd_U (s := s) hU) (tnd_M (s := s) hM) (tnd_NP (s := s) hNP) hpd (tnd_in ho e)
  have hc : rk (cnB n (tnd s A) (tnd s B) (tnd s C) X Y D) K = rk (corN n A B C X Y D s) K := rk_cong (fun m _ => by
    unfold cnB corN
    rw [Bool.eq_iff_iff, bP_iff, tnd_cor])
  have hw : rk (wlB n (tnd s A) (tnd s B) (tnd s C)) n = pc (walS n A B C s) := by
    unfold walS
    rw [pc_n hn]
    apply rk_cong
    intro k hk
    unfold wlB
    rw [Bool.eq_iff_iff, bP_iff, rB_t, wall_iff hN hk hr]
  have hub : (∃ u v, ¬ (u = 0 ∧ v = 0) ∧ Cone n (tnd s A) (tnd s B) u v) ↔ UB n A B s := by
    unfold UB
    constructor
    · rintro ⟨u, v, z, w⟩
      exact ⟨u, v, z, tnd_cone.mp w⟩
    · rintro ⟨u, v, z, w⟩
      exact ⟨u, v, z, tnd_cone.mpr w⟩
  have hn0 : 0 < n := by obtain ⟨i, -, hi, -⟩ := hNP; omega
  rw [hc] at h1 h2 h3
  rw [hw] at h2 h3
  refine ⟨h1, fun hb => h3 (fun z => ((bdd_iff hN s).mp hb).2 (hub.mp z)), fun hb => h2 (hub.mpr ?_)⟩
  apply Classical.byContradiction
  intro z
  have := (bdd_iff hN s).mpr ⟨hn0, z⟩
  rw [hb] at this
  cases this
/-! MEETS or none -/
theorem K_NP (hM : MSp n A B C K X Y D) : 0 < K ↔ NP n A B := by
  constructor
  · intro h
    obtain ⟨-, a, b, -, hat⟩ := hM.1 0 h
    exact ⟨a, b, hat.1, hat.2.1, hat.2.2.1⟩
  · rintro ⟨a, b, ha, hb, hc⟩
    obtain ⟨j, hj, -⟩ := hM.2.2 a b trivial ha hb hc
    omega
/-! the sums -/
theorem sumI_N (f : Nat → Nat) : ∀ m, sumI (fun i => (f i : Int)) m = (sumN f m : Int)
  | 0 => rfl
  | m + 1 => by rw [sumI_s, sumN_s, sumI_N f m, Int.natCast_add]
/-- of the LINES through a point all but the lowest have a lower one -/
theorem rk_first {q : Nat → Bool} : ∀ {m : Nat}, (∃ i, i < m ∧ q i = true) → rk q m = rk (fun l => q l && bP (∃ j, j < l ∧ q j = true)) m + 1
  | 0, h => by obtain ⟨i, hi, -⟩ := h; exact absurd hi (Nat.not_lt_zero i)
  | m + 1, h => by
    by_cases c : ∃ i, i < m ∧ q i = true
    · have ih := rk_first c
      rcases hq : q m with _ | _
      · rw [rk_f hq, rk_f (p := fun l => q l && bP (∃ j, j < l ∧ q j = true)) (by rw [hq]; rfl), ih]
      · rw [rk_t hq, rk_t (p := fun l => q l && bP (∃ j, j < l ∧ q j = true)) (by rw [hq, bP_t c]; rfl), ih]
    · have hz : ∀ i, i < m → q i = false := fun i hi => Bool.eq_false_iff.mpr (fun z => c ⟨i, hi, z⟩)
      have hm : q m = true := by
        obtain ⟨i, hi, z⟩ := h
        by_cases e : i = m
        · subst e; exact z
        · rw [hz i (by omega)] at z; cases z
      rw [rk_t hm, rk_none hz, rk_f (p := fun l => q l && bP (∃ j, j < l ∧ q j = true)) (by rw [bP_f c, Bool.and_false]), rk_none (fun i hi => by rw [hz i hi]; rfl)]
theorem rk_sum2 (p : Nat → Nat → Bool) (m : Nat) : ∀ n, sumN (fun i => rk (p i) m) n = sumN (fun j => rk (fun i => p i j) n) m := by
  intro n
  have e1 : sumN (fun i => rk (p i) m) n = sumN (fun i => sumN (fun j => if p i j then 1 else 0) m) n := sumN_cong (fun i _ => rk_sum (p i) m)
  have e2 : sumN (fun j => rk (fun i => p i j) n) m = sumN (fun j => sumN (fun i => if p i j then 1 else 0) n) m := sumN_cong (fun j _ => rk_sum (fun i => p i j) n)
  rw [e1, e2]
  exact sumN_swap (fun i j => if p i j then 1 else 0) m n
theorem surp_low (hn : n ≤ 9) (hU : LU n A B C) (hM : MSp n A B C K X Y D) : surp n A B C X Y D K = (lowS A B C n : Int) := by
  have h1 : ∀ i, i < K → (pc (thrS n A B C (X i) (Y i) (D i)) : Int) - 1 = ((rk (fun l => lowM n A B C X Y D l i) n : Nat) : Int) := by
    intro i hi
    unfold thrS
    rw [pc_n hn]
    obtain ⟨-, a, b, -, hat⟩ := hM.1 i hi
    have h2 := rk_first (q := fun l => decide (ht A B C l (X i) (Y i) (D i) = 0)) (m := n) ⟨a, hat.1, decide_eq_true hat.2.2.2.1⟩
    have h3 : rk (fun l => decide (ht A B C l (X i) (Y i) (D i) = 0) && bP (∃ j, j < l ∧ decide (ht A B C j (X i) (Y i) (D i) = 0) = true)) n = rk (fun l => lowM n A B C X Y D l i) n := rk_cong (fun l _ => by
      unfold lowM
      rw [Bool.eq_iff_iff, Bool.and_eq_true, decide_eq_true_eq, bP_iff, bP_iff]
      constructor
      · rintro ⟨z1, j, hj, z2⟩
        exact ⟨z1, j, hj, of_decide_eq_true z2⟩
      · rintro ⟨z1, j, hj, z2⟩
        exact ⟨z1, j, hj, decide_eq_true z2⟩)
    rw [h3] at h2
    omega
  unfold surp
  rw [sumI_cong h1, sumI_N]
  congr 1
  unfold lowS
  rw [← rk_sum2 (fun l i => lowM n A B C X Y D l i) K n]
  exact (sumN_cong (fun l hl => low_same hU hM hl)).symm
theorem lowP_lowB (hU : LU n A B C) (hM : MSp n A B C K X Y D) {i j : Nat} (hij : i < j) (hj : j < n) : lowP A B C K X Y D i j = lowB A B C j i := by
  unfold lowP lowB
  rw [Bool.eq_iff_iff, bP_iff, bP_iff]
  constructor
  · rintro ⟨m, hm, h1, h2, h3⟩
    have hd := (hM.1 m hm).1.1
    obtain ⟨c, -, -⟩ := two_on hU hj (show i < n by omega) (by omega) hd h2 h1
    exact ⟨c, fun l hl z => h3 l hl ((cross_ht hd (n := n) ⟨hj, by omega, c, h2, h1⟩).mp z)⟩
  · rintro ⟨c, h⟩
    obtain ⟨m, hm, hat⟩ := hM.2.2 j i trivial hj (show i < n by omega) c
    exact ⟨m, hm, hat.2.2.2.2, hat.2.2.2.1, fun l hl z => h l hl ((cross_ht (hM.1 m hm).1.1 hat).mpr z)⟩
theorem pairs_low (hU : LU n A B C) (hM : MSp n A B C K X Y D) : sumN (fun i => rk (pairB A B C K X Y D i) n) n = lowS A B C n := by
  rw [rk_sum2]
  unfold lowS
  apply sumN_cong
  intro j hj
  have h := rk_split (fun i => pairB A B C K X Y D i j) j (n - j)
  rw [show j + (n - j) = n by omega] at h
  rw [h, rk_none (m := n - j), Nat.add_zero]
  · apply rk_cong
    intro i hi
    unfold pairB
    rw [decide_eq_true hi, Bool.true_and, lowP_lowB hU hM hi hj]
  · intro i _
    unfold pairB
    rw [decide_eq_false (by omega), Bool.false_and]
theorem lowS_le : ∀ m, lowS A B C m ≤ m * m
  | 0 => Nat.le_refl 0
  | m + 1 => by
    have h1 := lowS_le m
    have h2 := rk_le (lowB A B C m) m
    have h3 : lowS A B C (m + 1) = lowS A B C m + rk (lowB A B C m) m := rfl
    have h4 : (m + 1) * (m + 1) = m * m + 2 * m + 1 := by grind
    omega
/-- without MEETS no sum -/
theorem low_0 (hNP : ¬ NP n A B) : lowS A B C n = 0 := by
  unfold lowS
  apply sumN_0
  intro l hl
  exact rk_none (fun j hj => bP_f (fun z => z.1 (Classical.byContradiction (fun w => hNP ⟨l, j, hl, by omega, w⟩))))
end RS
