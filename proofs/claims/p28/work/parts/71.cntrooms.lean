/-! ===== how many ROOMS there are: one LINE more ===== -/
section RC
variable {n : Nat} {A B C : Nat → Int}
theorem rk_or_and (p q : Nat → Bool) : ∀ m, rk p m + rk q m = rk (fun i => p i || q i) m + rk (fun i => p i && q i) m
  | 0 => rfl
  | m + 1 => by
    have h := rk_or_and p q m
    rw [rk_s, rk_s, rk_s, rk_s]
    cases p m <;> cases q m <;> simp <;> omega
/-- what is there below 2 ^ m or above, and what is there both below and above -/
theorem rk_dbl {p q b : Nat → Bool} {m : Nat} (h1 : ∀ s, s < 2 ^ m → (q s = true ↔ p s = true ∨ p (2 ^ m + s) = true)) (h2 : ∀ s, s < 2 ^ m → (b s = true ↔ p s = true ∧ p (2 ^ m + s) = true)) : rk p (2 ^ (m + 1)) = rk q (2 ^ m) + rk b (2 ^ m) := by
  have e : 2 ^ (m + 1) = 2 ^ m + 2 ^ m := by rw [Nat.pow_succ]; omega
  rw [e, rk_split, rk_or_and]
  congr 1
  · apply rk_cong
    intro s hs
    rw [Bool.eq_iff_iff, Bool.or_eq_true, h1 s hs]
  · apply rk_cong
    intro s hs
    rw [Bool.eq_iff_iff, Bool.and_eq_true, h2 s hs]
theorem rk_one {p : Nat → Bool} {s0 : Nat} : ∀ {m : Nat}, s0 < m → (∀ s, s < m → (p s = true ↔ s = s0)) → rk p m = 1
  | 0, h, _ => absurd h (Nat.not_lt_zero _)
  | m + 1, h, hp => by
    by_cases e : s0 = m
    · subst e
      rw [rk_t ((hp s0 (by omega)).mpr rfl), rk_none (fun i hi => Bool.eq_false_iff.mpr (fun z => by
        have := (hp i (by omega)).mp z
        omega))]
    · rw [rk_f (Bool.eq_false_iff.mpr (fun z => e ((hp m (by omega)).mp z).symm)), rk_one (s0 := s0) (by omega) (fun s hs => hp s (by omega))]
theorem pow_or {m s : Nat} (h : s < 2 ^ m) : s ||| 2 ^ m = 2 ^ m + s := by
  apply Nat.eq_of_testBit_eq
  intro l
  rw [Nat.testBit_or, Nat.testBit_two_pow]
  rcases Nat.lt_trichotomy l m with c | c | c
  · rw [Nat.testBit_two_pow_add_gt c, decide_eq_false (show ¬ m = l by omega), Bool.or_false]
  · subst c
    rw [Nat.testBit_two_pow_add_eq, Nat.testBit_lt_two_pow h, decide_eq_true rfl]
    rfl
  · have e1 : 2 ^ (m + 1) ≤ 2 ^ l := Nat.pow_le_pow_right (by omega) c
    have e2 : 2 ^ (m + 1) = 2 ^ m + 2 ^ m := by rw [Nat.pow_succ]; omega
    rw [Nat.testBit_lt_two_pow (show s < 2 ^ l by omega), Nat.testBit_lt_two_pow (show 2 ^ m + s < 2 ^ l by omega), decide_eq_false (show ¬ m = l by omega)]
    rfl
theorem abv_lo {m : Nat} {x y d : Int} (h : ht A B C m x y d ≤ 0) : abvS (m + 1) A B C x y d = abvS m A B C x y d := by
  unfold abvS
  rw [bset_succ, if_neg]
  rw [decide_eq_true_eq]
  omega
theorem abv_hi {m : Nat} {x y d : Int} (h : 0 < ht A B C m x y d) : abvS (m + 1) A B C x y d = 2 ^ m + abvS m A B C x y d := by
  rw [← pow_or (show abvS m A B C x y d < 2 ^ m from bset_lt _ _)]
  unfold abvS
  rw [bset_succ, if_pos (decide_eq_true h)]
theorem abv_lt (m : Nat) (x y d : Int) : abvS m A B C x y d < 2 ^ m := bset_lt _ _
/-- a bit off a point -/
theorem off_pt (n : Nat) {x y d : Int} (hd : 0 < d) (U V : Int) : ∃ x' y' d', 0 < d' ∧ (∀ j, j < n → (0 < ht A B C j x y d → 0 < ht A B C j x' y' d') ∧ (ht A B C j x y d < 0 → ht A B C j x' y' d' < 0)) ∧ ∀ j, ht A B C j x y d = 0 → ht A B C j x' y' d' = A j * U + B j * V := by
  obtain ⟨T, hT, h⟩ := near_ex n A B C x y d U V
  refine ⟨_, _, _, Int.mul_pos (show (0 : Int) < (T : Int) by omega) hd, h, fun j hj => ?_⟩
  rw [ht_shift, hj, Int.mul_zero, Int.zero_add]
/-- between two points, on a LINE that parts them -/
theorem mid_ex {m : Nat} {x y d x' y' d' : Int} (hd : 0 < d) (hd' : 0 < d') (h1 : ht A B C m x y d < 0) (h2 : 0 < ht A B C m x' y' d') : ∃ u v w, 0 < w ∧ ht A B C m u v w = 0 ∧ ∀ j, (0 < ht A B C j x y d → 0 < ht A B C j x' y' d' → 0 < ht A B C j u v w) ∧ (ht A B C j x y d < 0 → ht A B C j x' y' d' < 0 → ht A B C j u v w < 0) ∧ (ht A B C j x y d = 0 → ht A B C j x' y' d' = 0 → ht A B C j u v w = 0) := by
  obtain ⟨a, ha⟩ : ∃ a : Int, a = ht A B C m x' y' d' := ⟨_, rfl⟩
  obtain ⟨b, hb⟩ : ∃ b : Int, b = -ht A B C m x y d := ⟨_, rfl⟩
  have ha0 : 0 < a := by omega
  have hb0 : 0 < b := by omega
  refine ⟨a * x + b * x', a * y + b * y', a * d + b * d', ?_, ?_, fun j => ?_⟩
  · have := Int.mul_pos ha0 hd
    have := Int.mul_pos hb0 hd'
    omega
  · rw [ht_comb, ha, hb]
    have := Int.mul_comm (ht A B C m x' y' d') (ht A B C m x y d)
    rw [Int.neg_mul]
    omega
  · rw [ht_comb]
    refine ⟨fun z w => ?_, fun z w => ?_, fun z w => ?_⟩
    · have := Int.mul_pos ha0 z
      have := Int.mul_pos hb0 w
      omega
    · have := Int.mul_neg_of_pos_of_neg ha0 z
      have := Int.mul_neg_of_pos_of_neg hb0 w
      omega
    · rw [z, w, Int.mul_zero, Int.mul_zero]
      rfl
theorem abv_iff {m : Nat} {x y d : Int} {s : Nat} (e : s = abvS m A B C x y d) {l : Nat} (hl : l < m) : s.testBit l = true ↔ 0 < ht A B C l x y d := by
  rw [e, abvS_t]
  exact ⟨fun z => z.2, fun z => ⟨hl, z⟩⟩
theorem abv_same {m : Nat} {x y d x' y' d' : Int} (h : ∀ j, j < m → (0 < ht A B C j x y d → 0 < ht A B C j x' y' d') ∧ (ht A B C j x y d < 0 → ht A B C j x' y' d' < 0)) (ho : ∀ j, j < m → ht A B C j x y d ≠ 0) : abvS m A B C x y d = abvS m A B C x' y' d' := by
  refine abv_eq (fun l hl => ⟨(h l hl).1, fun z => ?_⟩)
  have h1 := ho l hl
  have h2 := (h l hl).2
  rcases Int.lt_trichotomy (ht A B C l x y d) 0 with c | c | c
  · have := h2 c; omega
  · exact absurd c h1
  · exact c
theorem off_same {m : Nat} {x y d x' y' d' : Int} (h : ∀ j, j < m → (0 < ht A B C j x y d → 0 < ht A B C j x' y' d') ∧ (ht A B C j x y d < 0 → ht A B C j x' y' d' < 0)) (ho : ∀ j, j < m → ht A B C j x y d ≠ 0) : ∀ j, j < m → ht A B C j x' y' d' ≠ 0 := by
  intro j hj
  have h1 := ho j hj
  rcases Int.lt_trichotomy (ht A B C j x y d) 0 with c | c | c
  · have := (h j hj).2 c; omega
  · exact absurd c h1
  · have := (h j hj).1 c; omega
theorem off_succ {m : Nat} {x y d : Int} (ho : ∀ j, j < m → ht A B C j x y d ≠ 0) (h : ht A B C m x y d ≠ 0) : ∀ j, j < m + 1 → ht A B C j x y d ≠ 0 := by
  intro j hj
  by_cases e : j = m
  · subst e; exact h
  · exact ho j (by omega)
/-- on the LINE k, off those below m -/
def OnL (A B C : Nat → Int) (k m s : Nat) : Prop := ∃ x y d, 0 < d ∧ ht A B C k x y d = 0 ∧ (∀ j, j < m → ht A B C j x y d ≠ 0) ∧ s = abvS m A B C x y d
noncomputable def onB (A B C : Nat → Int) (k m s : Nat) : Bool := bP (OnL A B C k m s)
theorem onB_t {k m s : Nat} : onB A B C k m s = true ↔ OnL A B C k m s := bP_iff
theorem onL_lo {k m s : Nat} (hs : s < 2 ^ m) (h : OnL A B C k (m + 1) s ∨ OnL A B C k (m + 1) (2 ^ m + s)) : OnL A B C k m s := by
  rcases h with ⟨x, y, d, hd, h0, ho, e⟩ | ⟨x, y, d, hd, h0, ho, e⟩
  · refine ⟨x, y, d, hd, h0, fun j hj => ho j (by omega), ?_⟩
    have h1 := ho m (by omega)
    rcases Int.lt_trichotomy (ht A B C m x y d) 0 with c | c | c
    · rw [abv_lo (by omega)] at e; exact e
    · exact absurd c h1
    · rw [abv_hi c] at e; omega
  · refine ⟨x, y, d, hd, h0, fun j hj => ho j (by omega), ?_⟩
    have h1 := ho m (by omega)
    have h2 := abv_lt (A := A) (B := B) (C := C) m x y d
    rcases Int.lt_trichotomy (ht A B C m x y d) 0 with c | c | c
    · rw [abv_lo (by omega)] at e; omega
    · exact absurd c h1
    · rw [abv_hi c] at e; omega
theorem cr_neg (A B : Nat → Int) (i j : Nat) : cr A B i j = -cr A B j i := by unfold cr; omega
theorem dir_on (A B : Nat → Int) (k : Nat) : A k * B k + B k * -A k = 0 := by rw [Int.mul_neg, Int.mul_comm (B k)]; omega
theorem dir_cr (A B : Nat → Int) (j k : Nat) : A j * B k + B j * -A k = cr A B j k := by
  unfold cr
  rw [Int.mul_neg, Int.mul_comm (B j)]
  omega
theorem onL_pt {k m : Nat} {x y d : Int} (hd : 0 < d) (h0 : ht A B C k x y d = 0) (ho : ∀ j, j < m → ht A B C j x y d ≠ 0) (hm : ht A B C m x y d ≠ 0) : OnL A B C k (m + 1) (abvS m A B C x y d) ∨ OnL A B C k (m + 1) (2 ^ m + abvS m A B C x y d) := by
  rcases Int.lt_trichotomy (ht A B C m x y d) 0 with c | c | c
  · exact Or.inl ⟨x, y, d, hd, h0, off_succ ho hm, (abv_lo (by omega)).symm⟩
  · exact absurd c hm
  · exact Or.inr ⟨x, y, d, hd, h0, off_succ ho hm, (abv_hi c).symm⟩
theorem onL_up (hU : LU n A B C) {k m s : Nat} (hk : k < n) (hm : m < k) (h : OnL A B C k m s) : OnL A B C k (m + 1) s ∨ OnL A B C k (m + 1) (2 ^ m + s) := by
  obtain ⟨x, y, d, hd, h0, ho, rfl⟩ := h
  by_cases c : ht A B C m x y d = 0
  · obtain ⟨c1, -, -⟩ := two_on hU (show m < n by omega) hk (by omega) hd c h0
    obtain ⟨x', y', d', hd', h1, h2⟩ := off_pt (A := A) (B := B) (C := C) m hd (B k) (-A k)
    have e0 : ht A B C k x' y' d' = 0 := by rw [h2 k h0, dir_on]
    have e1 : ht A B C m x' y' d' ≠ 0 := by rw [h2 m c, dir_cr]; exact c1
    rw [abv_same h1 ho]
    exact onL_pt hd' e0 (off_same h1 ho) e1
  · exact onL_pt hd h0 ho c
theorem cross_ex {k m : Nat} (h : cr A B k m ≠ 0) : ∃ x y d, 0 < d ∧ ht A B C k x y d = 0 ∧ ht A B C m x y d = 0 := by
  have f1 := cr_on A B C k m
  have f2 := cr_on2 A B C k m
  rcases Int.lt_trichotomy (cr A B k m) 0 with c | c | c
  · refine ⟨-cr C B k m, -cr A C k m, -cr A B k m, by omega, ?_, ?_⟩
    · unfold ht
      rw [Int.mul_neg, Int.mul_neg, Int.mul_neg]
      omega
    · unfold ht
      rw [Int.mul_neg, Int.mul_neg, Int.mul_neg]
      omega
  · exact absurd c h
  · exact ⟨cr C B k m, cr A C k m, cr A B k m, c, f1, f2⟩
/-- both ways on from a set: only at the point where the two LINES cross -/
theorem onL_both (hU : LU n A B C) {k m s : Nat} (hk : k < n) (hm : m < k) {x y d : Int} (hd : 0 < d) (h0 : ht A B C k x y d = 0) (h1 : ht A B C m x y d = 0) (hs : s < 2 ^ m) : (OnL A B C k (m + 1) s ∧ OnL A B C k (m + 1) (2 ^ m + s)) ↔ (∀ j, j < m → ht A B C j x y d ≠ 0) ∧ s = abvS m A B C x y d := by
  obtain ⟨c1, -, -⟩ := two_on hU hk (show m < n by omega) (by omega) hd h0 h1
  constructor
  · rintro ⟨⟨x1, y1, d1, hd1, a0, ao, e1⟩, ⟨x2, y2, d2, hd2, b0, bo, e2⟩⟩
    have g1 : ht A B C m x1 y1 d1 < 0 := by
      have := ao m (by omega)
      rcases Int.lt_trichotomy (ht A B C m x1 y1 d1) 0 with c | c | c
      · exact c
      · exact absurd c this
      · rw [abv_hi c] at e1; omega
    have g2 : 0 < ht A B C m x2 y2 d2 := by
      have := bo m (by omega)
      have h2 := abv_lt (A := A) (B := B) (C := C) m x2 y2 d2
      rcases Int.lt_trichotomy (ht A B C m x2 y2 d2) 0 with c | c | c
      · rw [abv_lo (by omega)] at e2; omega
      · exact absurd c this
      · exact c
    rw [abv_lo (by omega)] at e1
    rw [abv_hi g2] at e2
    have e2' : s = abvS m A B C x2 y2 d2 := by omega
    obtain ⟨u, v, w, hw, hm0, hj⟩ := mid_ex hd1 hd2 g1 g2
    have hk0 : ht A B C k u v w = 0 := (hj k).2.2 a0 b0
    have hq : ∀ j, ht A B C j u v w * d = ht A B C j x y d * w := fun j => eq3_ht (at_eq3 (n := n) ⟨hk, by omega, c1, hk0, hm0⟩ ⟨hk, by omega, c1, h0, h1⟩)
    have hsg : ∀ j, j < m → ht A B C j u v w ≠ 0 ∧ (s.testBit j = true ↔ 0 < ht A B C j u v w) := by
      intro j hj'
      have n1 := ao j (by omega)
      have n2 := bo j (by omega)
      have q1 := abv_iff e1 hj'
      have q2 := abv_iff e2' hj'
      by_cases c : s.testBit j = true
      · have := (hj j).1 (q1.mp c) (q2.mp c)
        exact ⟨by omega, ⟨fun _ => this, fun _ => c⟩⟩
      · have p1 : ¬ 0 < ht A B C j x1 y1 d1 := fun z => c (q1.mpr z)
        have p2 : ¬ 0 < ht A B C j x2 y2 d2 := fun z => c (q2.mpr z)
        have := (hj j).2.1 (by omega) (by omega)
        exact ⟨by omega, ⟨fun z => absurd z c, fun z => by omega⟩⟩
    have hxy : ∀ j, j < m → ht A B C j x y d ≠ 0 ∧ (s.testBit j = true ↔ 0 < ht A B C j x y d) := by
      intro j hj'
      obtain ⟨r1, r2⟩ := hsg j hj'
      have r3 := hq j
      rcases Int.lt_trichotomy (ht A B C j u v w) 0 with c | c | c
      · have r4 := Int.mul_neg_of_neg_of_pos c hd
        have r5 : ht A B C j x y d < 0 := by
          rcases (show ht A B C j x y d < 0 ∨ 0 ≤ ht A B C j x y d by omega) with z | z
          · exact z
          · have := Int.mul_nonneg z (Int.le_of_lt hw)
            omega
        exact ⟨by omega, by rw [r2]; omega⟩
      · exact absurd c r1
      · have r4 := Int.mul_pos c hd
        have r5 : 0 < ht A B C j x y d := by
          rcases (show ht A B C j x y d ≤ 0 ∨ 0 < ht A B C j x y d by omega) with z | z
          · have := Int.mul_nonpos_of_nonpos_of_nonneg z (Int.le_of_lt hw)
            omega
          · exact z
        exact ⟨by omega, by rw [r2]; omega⟩
    refine ⟨fun j hj' => (hxy j hj').1, ?_⟩
    apply Nat.eq_of_testBit_eq
    intro l
    rw [Bool.eq_iff_iff, abvS_t]
    by_cases c : l < m
    · rw [(hxy l c).2]
      exact ⟨fun z => ⟨c, z⟩, fun z => z.2⟩
    · have : s.testBit l = false := Nat.testBit_lt_two_pow (Nat.lt_of_lt_of_le hs (Nat.pow_le_pow_right (by omega) (by omega)))
      rw [this]
      exact ⟨fun z => absurd z (by decide), fun z => absurd z.1 c⟩
  · rintro ⟨ho, rfl⟩
    have hmk : cr A B m k ≠ 0 := by rw [cr_neg]; omega
    obtain ⟨x', y', d', hd', h3, h4⟩ := off_pt (A := A) (B := B) (C := C) m hd (B k) (-A k)
    obtain ⟨x'', y'', d'', hd'', h5, h6⟩ := off_pt (A := A) (B := B) (C := C) m hd (-B k) (A k)
    have a0 : ht A B C k x' y' d' = 0 := by rw [h4 k h0, dir_on]
    have b0 : ht A B C k x'' y'' d'' = 0 := by
      rw [h6 k h0]
      have := dir_on A B k
      rw [Int.mul_neg] at this ⊢
      omega
    have a1 : ht A B C m x' y' d' = cr A B m k := by rw [h4 m h1, dir_cr]
    have b1 : ht A B C m x'' y'' d'' = -cr A B m k := by
      rw [h6 m h1, ← dir_cr]
      rw [Int.mul_neg, Int.mul_neg]
      omega
    have ea := abv_same h3 ho
    have eb := abv_same h5 ho
    have oa := off_succ (off_same h3 ho) (show ht A B C m x' y' d' ≠ 0 by omega)
    have ob := off_succ (off_same h5 ho) (show ht A B C m x'' y'' d'' ≠ 0 by omega)
    rcases (show cr A B m k < 0 ∨ 0 < cr A B m k by omega) with c | c
    · exact ⟨⟨x', y', d', hd', a0, oa, by rw [abv_lo (by omega)]; exact ea⟩, ⟨x'', y'', d'', hd'', b0, ob, by rw [abv_hi (by omega), eb]⟩⟩
    · exact ⟨⟨x'', y'', d'', hd'', b0, ob, by rw [abv_lo (by omega)]; exact eb⟩, ⟨x', y', d', hd', a0, oa, by rw [abv_hi (by omega), ea]⟩⟩
theorem line_pt (hk : ¬ (A n = 0 ∧ B n = 0)) : ∃ x y d, 0 < d ∧ ht A B C n x y d = 0 := by
  refine ⟨A n * C n, B n * C n, A n * A n + B n * B n, sq_pos hk, ?_⟩
  unfold ht
  grind
/-- the stretches of one LINE -/
theorem cnt_on (hN : ∀ j, j < n → ¬ (A j = 0 ∧ B j = 0)) (hU : LU n A B C) {k : Nat} (hk : k < n) : ∀ m, m ≤ k → rk (onB A B C k m) (2 ^ m) = 1 + rk (lowB A B C k) m
  | 0, _ => by
    obtain ⟨x, y, d, hd, h0⟩ := line_pt (C := C) (hN k hk)
    have : onB A B C k 0 0 = true := onB_t.mpr ⟨x, y, d, hd, h0, fun j hj => absurd hj (Nat.not_lt_zero j), rfl⟩
    show rk (onB A B C k 0) (0 + 1) = 1 + 0
    rw [rk_t this]
    rfl
  | m + 1, hm => by
    have ih := cnt_on hN hU hk m (by omega)
    rw [rk_dbl (q := onB A B C k m) (b := fun s => onB A B C k (m + 1) s && onB A B C k (m + 1) (2 ^ m + s)) (fun s hs => by
      rw [onB_t, onB_t, onB_t]
      exact ⟨onL_up hU hk (by omega), onL_lo hs⟩) (fun s _ => by rw [Bool.and_eq_true]), ih]
    by_cases c : cr A B k m = 0
    · have hl : lowB A B C k m = false := bP_f (fun z => z.1 c)
      rw [rk_f hl, rk_none (m := 2 ^ m)]
      · rfl
      · intro s hs
        apply Bool.eq_false_iff.mpr
        intro z
        rw [Bool.and_eq_true, onB_t, onB_t] at z
        obtain ⟨⟨x1, y1, d1, hd1, a0, ao, e1⟩, ⟨x2, y2, d2, hd2, b0, bo, e2⟩⟩ := z
        have g1 : ht A B C m x1 y1 d1 < 0 := by
          have := ao m (by omega)
          rcases Int.lt_trichotomy (ht A B C m x1 y1 d1) 0 with c | c | c
          · exact c
          · exact absurd c this
          · rw [abv_hi c] at e1; omega
        have g2 : 0 < ht A B C m x2 y2 d2 := by
          have := bo m (by omega)
          have h2 := abv_lt (A := A) (B := B) (C := C) m x2 y2 d2
          rcases Int.lt_trichotomy (ht A B C m x2 y2 d2) 0 with c | c | c
          · rw [abv_lo (by omega)] at e2; omega
          · exact absurd c this
          · exact c
        obtain ⟨u, v, w, hw, hm0, hj⟩ := mid_ex hd1 hd2 g1 g2
        obtain ⟨c1, -, -⟩ := two_on hU hk (show m < n by omega) (by omega) hw ((hj k).2.2 a0 b0) hm0
        exact c1 c
    · obtain ⟨x, y, d, hd, h0, h1⟩ := cross_ex (C := C) c
      have hat : At n A B C k m x y d := ⟨hk, by omega, c, h0, h1⟩
      have hlow : lowB A B C k m = true ↔ ∀ j, j < m → ht A B C j x y d ≠ 0 := by
        unfold lowB
        rw [bP_iff]
        constructor
        · intro z j hj w
          exact z.2 j hj ((cross_ht hd hat).mpr w)
        · intro z
          exact ⟨c, fun j hj w => z j hj ((cross_ht hd hat).mp w)⟩
      have hb : ∀ s, s < 2 ^ m → ((onB A B C k (m + 1) s && onB A B C k (m + 1) (2 ^ m + s)) = true ↔ lowB A B C k m = true ∧ s = abvS m A B C x y d) := by
        intro s hs
        rw [Bool.and_eq_true, onB_t, onB_t, onL_both hU hk (by omega) hd h0 h1 hs, hlow]
      rcases hl : lowB A B C k m with _ | _
      · rw [rk_f hl, rk_none (m := 2 ^ m)]
        · rfl
        · intro s hs
          apply Bool.eq_false_iff.mpr
          intro z
          have := ((hb s hs).mp z).1
          rw [hl] at this
          cases this
      · rw [rk_t hl, rk_one (s0 := abvS m A B C x y d) (abv_lt m x y d) (fun s hs => by rw [hb s hs, hl]; exact ⟨fun z => z.2, fun z => ⟨rfl, z⟩⟩)]
        omega
/-! ROOMS -/
theorem real_pt {m : Nat} {x y d : Int} (hd : 0 < d) (ho : ∀ j, j < m → ht A B C j x y d ≠ 0) (hm : ht A B C m x y d ≠ 0) : Real (m + 1) A B C (abvS m A B C x y d) ∨ Real (m + 1) A B C (2 ^ m + abvS m A B C x y d) := by
  rcases Int.lt_trichotomy (ht A B C m x y d) 0 with c | c | c
  · exact Or.inl ⟨x, y, d, ⟨hd, off_succ ho hm⟩, (abv_lo (by omega)).symm⟩
  · exact absurd c hm
  · exact Or.inr ⟨x, y, d, ⟨hd, off_succ ho hm⟩, (abv_hi c).symm⟩
theorem real_up {m s : Nat} (hm : ¬ (A m = 0 ∧ B m = 0)) (h : Real m A B C s) : Real (m + 1) A B C s ∨ Real (m + 1) A B C (2 ^ m + s) := by
  obtain ⟨x, y, d, ⟨hd, ho⟩, rfl⟩ := h
  by_cases c : ht A B C m x y d = 0
  · obtain ⟨x', y', d', hd', h1, h2⟩ := off_pt (A := A) (B := B) (C := C) m hd (A m) (B m)
    have e1 : ht A B C m x' y' d' ≠ 0 := by rw [h2 m c]; have := sq_pos hm; omega
    rw [abv_same h1 ho]
    exact real_pt hd' (off_same h1 ho) e1
  · exact real_pt hd ho c
theorem real_lo {m s : Nat} (hs : s < 2 ^ m) (h : Real (m + 1) A B C s ∨ Real (m + 1) A B C (2 ^ m + s)) : Real m A B C s := by
  rcases h with h | h
  · have := real_low h
    rwa [Nat.mod_eq_of_lt hs] at this
  · have := real_low h
    rwa [Nat.add_mod_left, Nat.mod_eq_of_lt hs] at this
theorem real_two {m s : Nat} (hm : ¬ (A m = 0 ∧ B m = 0)) (hs : s < 2 ^ m) : (Real (m + 1) A B C s ∧ Real (m + 1) A B C (2 ^ m + s)) ↔ OnL A B C m m s := by
  constructor
  · rintro ⟨h1, h2⟩
    exact real_both hs h1 h2
  · rintro ⟨x, y, d, hd, h0, ho, rfl⟩
    have hsq := sq_pos hm
    obtain ⟨x', y', d', hd', h3, h4⟩ := off_pt (A := A) (B := B) (C := C) m hd (A m) (B m)
    obtain ⟨x'', y'', d'', hd'', h5, h6⟩ := off_pt (A := A) (B := B) (C := C) m hd (-A m) (-B m)
    have a1 : 0 < ht A B C m x' y' d' := by rw [h4 m h0]; exact hsq
    have b1 : ht A B C m x'' y'' d'' < 0 := by rw [h6 m h0, Int.mul_neg, Int.mul_neg]; omega
    exact ⟨⟨x'', y'', d'', ⟨hd'', off_succ (off_same h5 ho) (by omega)⟩, by rw [abv_lo (by omega)]; exact abv_same h5 ho⟩, ⟨x', y', d', ⟨hd', off_succ (off_same h3 ho) (by omega)⟩, by rw [abv_hi a1, abv_same h3 ho]⟩⟩
/-- the points of each LINE on lower ones, together -/
noncomputable def lowS (A B C : Nat → Int) (m : Nat) : Nat := sumN (fun l => rk (lowB A B C l) l) m
theorem cnt_rooms (hN : ∀ j, j < n → ¬ (A j = 0 ∧ B j = 0)) (hU : LU n A B C) : ∀ m, m ≤ n → rk (rB m A B C) (2 ^ m) = 1 + m + lowS A B C m
  | 0, _ => by
    have : rB 0 A B C 0 = true := rB_t.mpr (real_0.mpr rfl)
    show rk (rB 0 A B C) (0 + 1) = 1 + 0 + 0
    rw [rk_t this]
    rfl
  | m + 1, hm => by
    have ih := cnt_rooms hN hU m (by omega)
    rw [rk_dbl (q := rB m A B C) (b := onB A B C m m) (fun s hs => by
      rw [rB_t, rB_t, rB_t]
      exact ⟨real_up (hN m (by omega)), real_lo hs⟩) (fun s hs => by
      rw [onB_t, rB_t, rB_t]
      exact (real_two (hN m (by omega)) hs).symm), ih, cnt_on hN hU (by omega) m (Nat.le_refl m)]
    unfold lowS
    rw [sumN_s]
    omega
theorem rk_512 (hn : n ≤ 9) {p : Nat → Bool} (h : ∀ s, p s = true → s < 2 ^ n) : rk p 512 = rk p (2 ^ n) := by
  have h2 : 2 ^ n ≤ 512 := Nat.pow_le_pow_right (n := 2) (by omega) hn
  have h3 := rk_split p (2 ^ n) (512 - 2 ^ n)
  rw [show 2 ^ n + (512 - 2 ^ n) = 512 by omega] at h3
  rw [h3, rk_none (m := 512 - 2 ^ n)]
  · rfl
  · intro i _
    apply Bool.eq_false_iff.mpr
    intro z
    have := h _ z
    omega
theorem cnt_rooms_512 (hn : n ≤ 9) (hN : ∀ j, j < n → ¬ (A j = 0 ∧ B j = 0)) (hU : LU n A B C) : rk (rB n A B C) 512 = 1 + n + lowS A B C n := by
  rw [rk_512 hn (fun s h => real_lt (rB_t.mp h)), cnt_rooms hN hU n (Nat.le_refl n)]
end RC
