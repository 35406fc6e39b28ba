/-! ===== how many ROOMS have no bound ===== -/
section BC
variable {n : Nat} {A B C : Nat → Int}
def UB (m : Nat) (A B : Nat → Int) (s : Nat) : Prop := ∃ u v, ¬ (u = 0 ∧ v = 0) ∧ goes m A B s u v
def NP (m : Nat) (A B : Nat → Int) : Prop := ∃ i j, i < m ∧ j < m ∧ cr A B i j ≠ 0
noncomputable def ubB (m : Nat) (A B C : Nat → Int) (s : Nat) : Bool := rB m A B C s && bP (UB m A B s)
theorem ubB_t {m s : Nat} : ubB m A B C s = true ↔ Real m A B C s ∧ UB m A B s := by
  unfold ubB
  rw [Bool.and_eq_true, rB_t, bP_iff]
/-- a direction along a LINE, one way or the other -/
theorem along_id2 {a b u v p q : Int} (h : a * u + b * v = 0) : (a * a + b * b) * (p * u + q * v) = (b * u - a * v) * (p * b + q * -a) := by grind
theorem along_n {a b u v : Int} (h : a * u + b * v = 0) (h2 : b * u - a * v = 0) : (a * a + b * b) * u = 0 ∧ (a * a + b * b) * v = 0 := by
  constructor
  · grind
  · grind
theorem neg_dir (a b p q : Int) : p * -b + q * a = -(p * b + q * -a) := by rw [Int.mul_neg, Int.mul_neg]; omega
theorem dir_of {m k s : Nat} {u v : Int} (hk : ¬ (A k = 0 ∧ B k = 0)) (huv : ¬ (u = 0 ∧ v = 0)) (h0 : A k * u + B k * v = 0) (h : goes m A B s u v) : goes m A B s (B k) (-A k) ∨ goes m A B s (-B k) (A k) := by
  have hsq := sq_pos hk
  have hl : B k * u - A k * v ≠ 0 := by
    intro z
    obtain ⟨z1, z2⟩ := along_n h0 z
    refine huv ⟨?_, ?_⟩
    · rcases Int.mul_eq_zero.mp z1 with w | w <;> omega
    · rcases Int.mul_eq_zero.mp z2 with w | w <;> omega
  have e : ∀ j, (A k * A k + B k * B k) * (A j * u + B j * v) = (B k * u - A k * v) * (A j * B k + B j * -A k) := fun j => along_id2 h0
  rcases Int.lt_trichotomy (B k * u - A k * v) 0 with c | c | c
  · right
    intro j hj
    have hj' := h j hj
    have ej := e j
    have en := neg_dir (A k) (B k) (A j) (B j)
    rcases hs : s.testBit j with _ | _
    · rw [okd_f hs] at hj' ⊢
      have := Int.mul_nonpos_of_nonneg_of_nonpos (Int.le_of_lt hsq) hj'
      rcases (show 0 ≤ A j * B k + B j * -A k ∨ A j * B k + B j * -A k < 0 by omega) with z | z
      · omega
      · have := Int.mul_pos_of_neg_of_neg c z
        omega
    · rw [okd_t hs] at hj' ⊢
      have := Int.mul_nonneg (Int.le_of_lt hsq) hj'
      rcases (show A j * B k + B j * -A k ≤ 0 ∨ 0 < A j * B k + B j * -A k by omega) with z | z
      · omega
      · have := Int.mul_neg_of_neg_of_pos c z
        omega
  · exact absurd c hl
  · left
    intro j hj
    have hj' := h j hj
    have ej := e j
    rcases hs : s.testBit j with _ | _
    · rw [okd_f hs] at hj' ⊢
      have := Int.mul_nonpos_of_nonneg_of_nonpos (Int.le_of_lt hsq) hj'
      rcases (show A j * B k + B j * -A k ≤ 0 ∨ 0 < A j * B k + B j * -A k by omega) with z | z
      · exact z
      · have := Int.mul_pos c z
        omega
    · rw [okd_t hs] at hj' ⊢
      have := Int.mul_nonneg (Int.le_of_lt hsq) hj'
      rcases (show 0 ≤ A j * B k + B j * -A k ∨ A j * B k + B j * -A k < 0 by omega) with z | z
      · exact z
      · have := Int.mul_neg_of_pos_of_neg c z
        omega
theorem okd_comb {s k : Nat} {u v u' v' a b : Int} (ha : 0 ≤ a) (hb : 0 ≤ b) (h : okd A B s u v k) (h' : okd A B s u' v' k) : okd A B s (a * u + b * u') (a * v + b * v') k := by
  have e : A k * (a * u + b * u') + B k * (a * v + b * v') = a * (A k * u + B k * v) + b * (A k * u' + B k * v') := by grind
  rcases hs : s.testBit k with _ | _
  · rw [okd_f hs] at h h' ⊢
    rw [e]
    have := Int.mul_nonpos_of_nonneg_of_nonpos ha h
    have := Int.mul_nonpos_of_nonneg_of_nonpos hb h'
    omega
  · rw [okd_t hs] at h h' ⊢
    rw [e]
    have := Int.mul_nonneg ha h
    have := Int.mul_nonneg hb h'
    omega
theorem goes_comb {m s : Nat} {u v u' v' a b : Int} (ha : 0 ≤ a) (hb : 0 ≤ b) (h : goes m A B s u v) (h' : goes m A B s u' v') : goes m A B s (a * u + b * u') (a * v + b * v') := fun k hk => okd_comb ha hb (h k hk) (h' k hk)
/-- three normals -/
theorem pluck (A B : Nat → Int) (i j k : Nat) : cr A B i j * A k + cr A B j k * A i + cr A B k i * A j = 0 ∧ cr A B i j * B k + cr A B j k * B i + cr A B k i * B j = 0 := by
  unfold cr
  constructor <;> grind
theorem par_tr {i j k : Nat} (hk : ¬ (A k = 0 ∧ B k = 0)) (h1 : cr A B i k = 0) (h2 : cr A B j k = 0) : cr A B i j = 0 := by
  obtain ⟨e1, e2⟩ := pluck A B i j k
  have h3 : cr A B k i = 0 := by rw [cr_neg, h1]; rfl
  rw [h2, h3, Int.zero_mul, Int.zero_mul, Int.add_zero, Int.add_zero] at e1 e2
  rcases Int.mul_eq_zero.mp e1 with z | z
  · exact z
  · rcases Int.mul_eq_zero.mp e2 with w | w
    · exact w
    · exact absurd ⟨z, w⟩ hk
/-- both normals have nothing of a direction: the LINES are beside one another -/
theorem flat_cr {i j : Nat} {u v : Int} (huv : ¬ (u = 0 ∧ v = 0)) (h1 : A i * u + B i * v = 0) (h2 : A j * u + B j * v = 0) : cr A B i j = 0 := by
  have e1 : cr A B i j * u = 0 := by unfold cr; grind
  have e2 : cr A B i j * v = 0 := by unfold cr; grind
  rcases Int.mul_eq_zero.mp e1 with z | z
  · exact z
  · rcases Int.mul_eq_zero.mp e2 with w | w
    · exact w
    · exact absurd ⟨z, w⟩ huv
/-- no direction and its other way, where LINES cross -/
theorem no_line {m s : Nat} {u v : Int} (hNP : NP m A B) (huv : ¬ (u = 0 ∧ v = 0)) (h1 : goes m A B s u v) (h2 : goes m A B s (-u) (-v)) : False := by
  obtain ⟨i, j, hi, hj, hc⟩ := hNP
  have f : ∀ k, k < m → A k * u + B k * v = 0 := by
    intro k hk
    have a1 := h1 k hk
    have a2 := h2 k hk
    have e : A k * -u + B k * -v = -(A k * u + B k * v) := by rw [Int.mul_neg, Int.mul_neg]; omega
    rcases hs : s.testBit k with _ | _
    · rw [okd_f hs] at a1 a2
      omega
    · rw [okd_t hs] at a1 a2
      omega
  exact hc (flat_cr huv (f i hi) (f j hj))
/-- a ROOM without bound goes on along a LINE -/
theorem ub_dir (hN : ∀ j, j < n → ¬ (A j = 0 ∧ B j = 0)) (hn : 0 < n) {s : Nat} (h : UB n A B s) : ∃ k, k < n ∧ (goes n A B s (B k) (-A k) ∨ goes n A B s (-B k) (A k)) := by
  obtain ⟨u, v, huv, hg⟩ := h
  -- turned towards the way e of the first LINE, until a LINE is met
  by_cases c0 : goes n A B s (B 0) (-A 0)
  · exact ⟨0, hn, Or.inl c0⟩
  · have hex : ∃ k, k < n ∧ ¬ okd A B s (B 0) (-A 0) k := by
      apply Classical.byContradiction
      intro z
      exact c0 (fun k hk => Classical.byContradiction (fun w => z ⟨k, hk, w⟩))
    obtain ⟨p, hp⟩ : ∃ p : Nat → Int, p = fun k => A k * u + B k * v := ⟨_, rfl⟩
    obtain ⟨q, hq⟩ : ∃ q : Nat → Int, q = fun k => A k * B 0 + B k * -A 0 := ⟨_, rfl⟩
    -- those against which e goes: the one that is met first
    have hbad : ∀ k, ¬ okd A B s (B 0) (-A 0) k → (q k).natAbs ≠ 0 := by
      intro k hk z
      apply hk
      have z' : q k = 0 := by omega
      rw [hq] at z'
      dsimp only at z'
      rcases hs : s.testBit k with _ | _
      · rw [okd_f hs]; omega
      · rw [okd_t hs]; omega
    obtain ⟨k, hk, hkb, hmin⟩ := ex_min (R := fun i j => (p i).natAbs * (q j).natAbs ≤ (p j).natAbs * (q i).natAbs) (P := fun k => ¬ okd A B s (B 0) (-A 0) k) (fun i j => Nat.le_total _ _) (fun i j k pi pj pk h1 h2 => by
      have hj : 0 < (q j).natAbs := Nat.pos_of_ne_zero (hbad j pj)
      refine Nat.le_of_mul_le_mul_right (c := (q j).natAbs) ?_ hj
      calc (p i).natAbs * (q k).natAbs * (q j).natAbs = (p i).natAbs * (q j).natAbs * (q k).natAbs := Nat.mul_right_comm _ _ _
        _ ≤ (p j).natAbs * (q i).natAbs * (q k).natAbs := Nat.mul_le_mul_right _ h1
        _ = (p j).natAbs * (q k).natAbs * (q i).natAbs := Nat.mul_right_comm _ _ _
        _ ≤ (p k).natAbs * (q j).natAbs * (q i).natAbs := Nat.mul_le_mul_right _ h2
        _ = (p k).natAbs * (q i).natAbs * (q j).natAbs := Nat.mul_right_comm _ _ _) n hex
    obtain ⟨a, ha⟩ : ∃ a : Int, a = ((q k).natAbs : Int) := ⟨_, rfl⟩
    obtain ⟨b, hb⟩ : ∃ b : Int, b = ((p k).natAbs : Int) := ⟨_, rfl⟩
    have ha0 : 0 < a := by have := hbad k hkb; omega
    have hb0 : 0 ≤ b := by omega
    have hlin : ∀ j, A j * (a * u + b * B 0) + B j * (a * v + b * -A 0) = a * p j + b * q j := by
      intro j
      rw [hp, hq]
      dsimp only
      grind
    have hpk : ∀ j, p j = A j * u + B j * v := fun j => by rw [hp]
    have hqk : ∀ j, q j = A j * B 0 + B j * -A 0 := fun j => by rw [hq]
    have hall : goes n A B s (a * u + b * B 0) (a * v + b * -A 0) := by
      intro j hj
      have hgj := hg j hj
      by_cases cj : okd A B s (B 0) (-A 0) j
      · exact okd_comb (Int.le_of_lt ha0) hb0 hgj cj
      · have hm := hmin j hj cj
        have hm2 : b * ((q j).natAbs : Int) ≤ ((p j).natAbs : Int) * a := by
          rw [ha, hb]
          exact_mod_cast hm
        have hcm : ((p j).natAbs : Int) * a = a * ((p j).natAbs : Int) := Int.mul_comm _ _
        rcases hs : s.testBit j with _ | _
        · rw [okd_f hs] at hgj cj ⊢
          rw [hlin]
          have e1 : ((p j).natAbs : Int) = -p j := by have := hpk j; omega
          have e2 : ((q j).natAbs : Int) = q j := by have := hqk j; omega
          rw [hcm, e1, e2, Int.mul_neg] at hm2
          omega
        · rw [okd_t hs] at hgj cj ⊢
          rw [hlin]
          have e1 : ((p j).natAbs : Int) = p j := by have := hpk j; omega
          have e2 : ((q j).natAbs : Int) = -q j := by have := hqk j; omega
          rw [hcm, e1, e2, Int.mul_neg] at hm2
          omega
    have hk0 : A k * (a * u + b * B 0) + B k * (a * v + b * -A 0) = 0 := by
      rw [hlin, ha, hb]
      have hgk := hg k hk
      rcases hs : s.testBit k with _ | _
      · rw [okd_f hs] at hgk hkb
        have e1 : ((p k).natAbs : Int) = -p k := by have := hpk k; omega
        have e2 : ((q k).natAbs : Int) = q k := by have := hqk k; omega
        rw [e1, e2, Int.neg_mul, Int.mul_comm (q k)]
        omega
      · rw [okd_t hs] at hgk hkb
        have e1 : ((p k).natAbs : Int) = p k := by have := hpk k; omega
        have e2 : ((q k).natAbs : Int) = -q k := by have := hqk k; omega
        rw [e1, e2, Int.neg_mul, Int.mul_comm (q k)]
        omega
    by_cases hw : a * u + b * B 0 = 0 ∧ a * v + b * -A 0 = 0
    · -- then the direction is along the first LINE
      have h00 : A 0 * u + B 0 * v = 0 := by
        have e : a * (A 0 * u + B 0 * v) = 0 := by
          have : A 0 * (a * u + b * B 0) + B 0 * (a * v + b * -A 0) = a * (A 0 * u + B 0 * v) := by grind
          rw [← this, hw.1, hw.2, Int.mul_zero, Int.mul_zero]
          rfl
        rcases Int.mul_eq_zero.mp e with z | z
        · omega
        · exact z
      exact ⟨0, hn, dir_of (hN 0 hn) huv h00 hg⟩
    · exact ⟨k, hk, dir_of (hN k hk) hw hk0 hall⟩
theorem e_ne {k : Nat} (hk : ¬ (A k = 0 ∧ B k = 0)) : ¬ (B k = 0 ∧ -A k = 0) := fun z => hk ⟨by omega, z.1⟩
theorem e_ne' {k : Nat} (hk : ¬ (A k = 0 ∧ B k = 0)) : ¬ (-B k = 0 ∧ A k = 0) := fun z => hk ⟨z.2, by omega⟩
theorem bdd_iff (hN : ∀ j, j < n → ¬ (A j = 0 ∧ B j = 0)) (s : Nat) : bdd n A B s = true ↔ 0 < n ∧ ¬ UB n A B s := by
  unfold bdd
  rw [bP_iff]
  constructor
  · rintro ⟨hn, h⟩
    refine ⟨hn, fun z => ?_⟩
    obtain ⟨k, hk, z1 | z1⟩ := ub_dir hN hn z
    · exact (h k hk).1 z1
    · exact (h k hk).2 z1
  · rintro ⟨hn, h⟩
    exact ⟨hn, fun k hk => ⟨fun z => h ⟨_, _, e_ne (hN k hk), z⟩, fun z => h ⟨_, _, e_ne' (hN k hk), z⟩⟩⟩
/-! one LINE more -/
theorem goes_lo {m s : Nat} {u v : Int} (h : goes (m + 1) A B s u v) : goes m A B s u v := fun k hk => h k (by omega)
theorem goes_lo' {m s : Nat} {u v : Int} (h : goes (m + 1) A B (2 ^ m + s) u v) : goes m A B s u v := by
  intro k hk
  have := h k (by omega)
  unfold okd at this ⊢
  rwa [Nat.testBit_two_pow_add_gt hk] at this
theorem goes_up {m s : Nat} (hs : s < 2 ^ m) {u v : Int} (h : goes m A B s u v) (h0 : A m * u + B m * v ≤ 0) : goes (m + 1) A B s u v := by
  intro k hk
  by_cases e : k = m
  · subst e
    rw [okd_f (Nat.testBit_lt_two_pow hs)]
    exact h0
  · exact h k (by omega)
theorem goes_up' {m s : Nat} (hs : s < 2 ^ m) {u v : Int} (h : goes m A B s u v) (h0 : 0 ≤ A m * u + B m * v) : goes (m + 1) A B (2 ^ m + s) u v := by
  intro k hk
  by_cases e : k = m
  · subst e
    rw [okd_t (by rw [Nat.testBit_two_pow_add_eq, Nat.testBit_lt_two_pow hs]; rfl)]
    exact h0
  · have := h k (by omega)
    unfold okd at this ⊢
    rwa [Nat.testBit_two_pow_add_gt (show k < m by omega)]
theorem ht_go (A B C : Nat → Int) (j : Nat) (x y d t u v : Int) : ht A B C j (x + t * u) (y + t * v) d = ht A B C j x y d + t * (A j * u + B j * v) := by
  unfold ht
  grind
/-- far on in a direction of a ROOM: still in it -/
theorem go_far {m s : Nat} {x y d u v t : Int} (ho : ∀ j, j < m → ht A B C j x y d ≠ 0) (e : s = abvS m A B C x y d) (hg : goes m A B s u v) (ht0 : 0 ≤ t) : ∀ j, j < m → (0 < ht A B C j x y d → 0 < ht A B C j (x + t * u) (y + t * v) d) ∧ (ht A B C j x y d < 0 → ht A B C j (x + t * u) (y + t * v) d < 0) := by
  intro j hj
  have h1 := hg j hj
  have h2 := abv_iff e hj
  rw [ht_go]
  rcases hs : s.testBit j with _ | _
  · rw [okd_f hs] at h1
    have h3 : ¬ 0 < ht A B C j x y d := fun z => by have := h2.mpr z; rw [hs] at this; cases this
    have h4 := Int.mul_nonpos_of_nonneg_of_nonpos ht0 h1
    exact ⟨fun z => absurd z h3, fun z => by omega⟩
  · rw [okd_t hs] at h1
    have h3 := h2.mp hs
    have h4 := Int.mul_nonneg ht0 h1
    exact ⟨fun z => by omega, fun z => by omega⟩
theorem far_hi {m s : Nat} {u v : Int} (h : Real m A B C s) (hg : goes m A B s u v) (h0 : 0 < A m * u + B m * v) : Real (m + 1) A B C (2 ^ m + s) := by
  obtain ⟨x, y, d, ⟨hd, ho⟩, e⟩ := h
  have hf := go_far (t := ((ht A B C m x y d).natAbs : Int) + 1) ho e hg (by omega)
  have hm : 0 < ht A B C m (x + (((ht A B C m x y d).natAbs : Int) + 1) * u) (y + (((ht A B C m x y d).natAbs : Int) + 1) * v) d := by
    rw [ht_go]
    have := le_mul1 (a := A m * u + B m * v) (z := ((ht A B C m x y d).natAbs : Int) + 1) (by omega) (by omega)
    rw [Int.mul_comm] at this
    omega
  exact ⟨_, _, _, ⟨hd, off_succ (off_same hf ho) (by omega)⟩, by rw [abv_hi hm, ← abv_same hf ho, e]⟩
theorem far_lo {m s : Nat} {u v : Int} (h : Real m A B C s) (hg : goes m A B s u v) (h0 : A m * u + B m * v < 0) : Real (m + 1) A B C s := by
  obtain ⟨x, y, d, ⟨hd, ho⟩, e⟩ := h
  have hf := go_far (t := ((ht A B C m x y d).natAbs : Int) + 1) ho e hg (by omega)
  have hm : ht A B C m (x + (((ht A B C m x y d).natAbs : Int) + 1) * u) (y + (((ht A B C m x y d).natAbs : Int) + 1) * v) d < 0 := by
    rw [ht_go]
    have := le_mul1 (a := -(A m * u + B m * v)) (z := ((ht A B C m x y d).natAbs : Int) + 1) (by omega) (by omega)
    rw [Int.neg_mul, Int.mul_comm] at this
    omega
  exact ⟨_, _, _, ⟨hd, off_succ (off_same hf ho) (by omega)⟩, by rw [abv_lo (by omega), ← abv_same hf ho, e]⟩
/-- the LINE m goes on in a ROOM for ever, one way (w = 1) or the other -/
def endL (A B C : Nat → Int) (m : Nat) (w : Int) (s : Nat) : Prop := OnL A B C m m s ∧ goes m A B s (w * B m) (w * -A m)
theorem ub_one {m s : Nat} (hm : ¬ (A m = 0 ∧ B m = 0)) (hs : s < 2 ^ m) : (Real m A B C s ∧ UB m A B s) ↔ (Real (m + 1) A B C s ∧ UB (m + 1) A B s) ∨ (Real (m + 1) A B C (2 ^ m + s) ∧ UB (m + 1) A B (2 ^ m + s)) := by
  constructor
  · rintro ⟨hr, u, v, huv, hg⟩
    rcases Int.lt_trichotomy (A m * u + B m * v) 0 with c | c | c
    · exact Or.inl ⟨far_lo hr hg c, u, v, huv, goes_up hs hg (by omega)⟩
    · rcases real_up hm hr with z | z
      · exact Or.inl ⟨z, u, v, huv, goes_up hs hg (by omega)⟩
      · exact Or.inr ⟨z, u, v, huv, goes_up' hs hg (by omega)⟩
    · exact Or.inr ⟨far_hi hr hg c, u, v, huv, goes_up' hs hg (by omega)⟩
  · rintro (⟨hr, u, v, huv, hg⟩ | ⟨hr, u, v, huv, hg⟩)
    · exact ⟨real_lo hs (Or.inl hr), u, v, huv, goes_lo hg⟩
    · exact ⟨real_lo hs (Or.inr hr), u, v, huv, goes_lo' hg⟩
theorem w1 (m : Nat) (s : Nat) : goes m A B s (1 * B m) (1 * -A m) = goes m A B s (B m) (-A m) := by rw [Int.one_mul, Int.one_mul]
theorem wm1 (m : Nat) (s : Nat) : goes m A B s (-1 * B m) (-1 * -A m) = goes m A B s (-B m) (A m) := by rw [Int.neg_mul, Int.one_mul, Int.neg_mul, Int.one_mul, Int.neg_neg]
theorem ub_two {m s : Nat} (hm : ¬ (A m = 0 ∧ B m = 0)) (hNP : NP m A B) (hs : s < 2 ^ m) : (endL A B C m 1 s ∨ endL A B C m (-1) s) ↔ (Real (m + 1) A B C s ∧ UB (m + 1) A B s) ∧ (Real (m + 1) A B C (2 ^ m + s) ∧ UB (m + 1) A B (2 ^ m + s)) := by
  unfold endL
  rw [w1, wm1]
  constructor
  · intro h
    have ho : OnL A B C m m s := h.elim (fun z => z.1) (fun z => z.1)
    obtain ⟨r1, r2⟩ := (real_two hm hs).mpr ho
    rcases h with ⟨-, h⟩ | ⟨-, h⟩
    · have e := dir_on A B m
      exact ⟨⟨r1, _, _, e_ne hm, goes_up hs h (by omega)⟩, ⟨r2, _, _, e_ne hm, goes_up' hs h (by omega)⟩⟩
    · have e : A m * -B m + B m * A m = 0 := by rw [Int.mul_neg, Int.mul_comm (B m)]; omega
      exact ⟨⟨r1, _, _, e_ne' hm, goes_up hs h (by omega)⟩, ⟨r2, _, _, e_ne' hm, goes_up' hs h (by omega)⟩⟩
  · rintro ⟨⟨r1, u, v, huv, hg⟩, ⟨r2, u', v', huv', hg'⟩⟩
    have ho := (real_two hm hs).mp ⟨r1, r2⟩
    have a1 : A m * u + B m * v ≤ 0 := by
      have := hg m (by omega)
      rwa [okd_f (Nat.testBit_lt_two_pow hs)] at this
    have a2 : 0 ≤ A m * u' + B m * v' := by
      have := hg' m (by omega)
      rwa [okd_t (by rw [Nat.testBit_two_pow_add_eq, Nat.testBit_lt_two_pow hs]; rfl)] at this
    have g1 := goes_lo hg
    have g2 := goes_lo' hg'
    have key : goes m A B s (B m) (-A m) ∨ goes m A B s (-B m) (A m) := by
      by_cases c1 : A m * u + B m * v = 0
      · exact dir_of hm huv c1 g1
      · by_cases c2 : A m * u' + B m * v' = 0
        · exact dir_of hm huv' c2 g2
        · obtain ⟨a, ha⟩ : ∃ a, a = A m * u' + B m * v' := ⟨_, rfl⟩
          obtain ⟨b, hb⟩ : ∃ b, b = -(A m * u + B m * v) := ⟨_, rfl⟩
          have ha0 : 0 < a := by omega
          have hb0 : 0 < b := by omega
          have hg3 := goes_comb (a := a) (b := b) (Int.le_of_lt ha0) (Int.le_of_lt hb0) g1 g2
          have h0 : A m * (a * u + b * u') + B m * (a * v + b * v') = 0 := by
            have e : A m * (a * u + b * u') + B m * (a * v + b * v') = a * (A m * u + B m * v) + b * (A m * u' + B m * v') := by grind
            rw [e, ← ha, hb, Int.neg_mul, Int.mul_comm (A m * u + B m * v)]
            omega
          refine dir_of hm (fun z => ?_) h0 hg3
          -- else one is the other's other way
          refine no_line hNP huv g1 (fun k hk => ?_)
          have q2 := g2 k hk
          have e1 : A k * -u + B k * -v = -(A k * u + B k * v) := by rw [Int.mul_neg, Int.mul_neg]; omega
          have e2 : a * (A k * u + B k * v) + b * (A k * u' + B k * v') = 0 := by
            have e : A k * (a * u + b * u') + B k * (a * v + b * v') = a * (A k * u + B k * v) + b * (A k * u' + B k * v') := by grind
            rw [← e, z.1, z.2]
            omega
          rcases hsb : s.testBit k with _ | _
          · rw [okd_f hsb] at q2 ⊢
            have := Int.mul_nonpos_of_nonneg_of_nonpos (Int.le_of_lt hb0) q2
            rcases (show A k * u + B k * v < 0 ∨ 0 ≤ A k * u + B k * v by omega) with z | z
            · have := Int.mul_neg_of_pos_of_neg ha0 z
              omega
            · omega
          · rw [okd_t hsb] at q2 ⊢
            have := Int.mul_nonneg (Int.le_of_lt hb0) q2
            rcases (show A k * u + B k * v ≤ 0 ∨ 0 < A k * u + B k * v by omega) with z | z
            · omega
            · have := Int.mul_pos ha0 z
              omega
    rcases key with z | z
    · exact Or.inl ⟨ho, z⟩
    · exact Or.inr ⟨ho, z⟩
/-- beside the LINE m, the same height all along it -/
theorem par_same {j m : Nat} (hm : ¬ (A m = 0 ∧ B m = 0)) (h : cr A B j m = 0) {x y d x' y' d' : Int} (h1 : ht A B C m x y d = 0) (h2 : ht A B C m x' y' d' = 0) : ht A B C j x y d * d' = ht A B C j x' y' d' * d := by
  have e2 := along_id (p := A j) (q := B j) (e := C j) h1 h2
  have hsq := sq_pos hm
  have c1 : B j * A m - A j * B m = 0 := by unfold cr at h; rw [Int.mul_comm (B j)]; omega
  rw [c1, Int.zero_mul] at e2
  rcases Int.mul_eq_zero.mp e2 with z | z
  · omega
  · unfold ht; omega
theorem pos_same {a b d d' : Int} (hd : 0 < d) (hd' : 0 < d') (e : a * d' = b * d) : 0 < a ↔ 0 < b := by
  constructor
  · intro z
    have := Int.mul_pos z hd'
    rcases (show b ≤ 0 ∨ 0 < b by omega) with w | w
    · have := Int.mul_nonpos_of_nonpos_of_nonneg w (Int.le_of_lt hd); omega
    · exact w
  · intro z
    have := Int.mul_pos z hd
    rcases (show a ≤ 0 ∨ 0 < a by omega) with w | w
    · have := Int.mul_nonpos_of_nonpos_of_nonneg w (Int.le_of_lt hd'); omega
    · exact w
theorem end_one (hN : ∀ j, j < n → ¬ (A j = 0 ∧ B j = 0)) (hU : LU n A B C) {m : Nat} (hm : m < n) {w : Int} (hw : w = 1 ∨ w = -1) : ∃ s0, s0 < 2 ^ m ∧ ∀ s, s < 2 ^ m → (endL A B C m w s ↔ s = s0) := by
  obtain ⟨x, y, d, hd, h0⟩ := line_pt (C := C) (hN m hm)
  -- far out on the LINE
  have hev : Ev (fun T => ∀ j, j < m → (0 < w * cr A B j m → 0 < ht A B C j (x + (T : Int) * (w * B m)) (y + (T : Int) * (w * -A m)) d) ∧ (w * cr A B j m < 0 → ht A B C j (x + (T : Int) * (w * B m)) (y + (T : Int) * (w * -A m)) d < 0)) := by
    refine Ev.all m (fun j hj => ?_)
    have e : ∀ T : Nat, ht A B C j (x + (T : Int) * (w * B m)) (y + (T : Int) * (w * -A m)) d = (T : Int) * (w * cr A B j m) + ht A B C j x y d := by
      intro T
      rw [ht_go, ← dir_cr]
      have : A j * (w * B m) + B j * (w * -A m) = w * (A j * B m + B j * -A m) := by grind
      rw [this]
      omega
    rcases Int.lt_trichotomy (w * cr A B j m) 0 with c | c | c
    · exact (ev_lin_neg (b := ht A B C j x y d) c).mono (fun T hT => ⟨fun z => by omega, fun _ => by rw [e T]; exact hT⟩)
    · exact Ev.tr (fun T => ⟨fun z => by omega, fun z => by omega⟩)
    · exact (ev_lin_pos (b := ht A B C j x y d) c).mono (fun T hT => ⟨fun _ => by rw [e T]; exact hT, fun z => by omega⟩)
  obtain ⟨T, hT, hf⟩ := hev.ex
  obtain ⟨X, hX⟩ : ∃ X, X = x + (T : Int) * (w * B m) := ⟨_, rfl⟩
  obtain ⟨Y, hY⟩ : ∃ Y, Y = y + (T : Int) * (w * -A m) := ⟨_, rfl⟩
  have hon : ht A B C m X Y d = 0 := by
    rw [hX, hY, ht_go, h0]
    have : A m * (w * B m) + B m * (w * -A m) = w * (A m * B m + B m * -A m) := by grind
    rw [this, dir_on, Int.mul_zero, Int.mul_zero]
    rfl
  rw [← hX, ← hY] at hf
  have hw0 : ∀ z : Int, w * z = 0 → z = 0 := by
    intro z hz
    rcases Int.mul_eq_zero.mp hz with q | q
    · omega
    · exact q
  have hoff : ∀ j, j < m → ht A B C j X Y d ≠ 0 := by
    intro j hj
    rcases Int.lt_trichotomy (w * cr A B j m) 0 with c | c | c
    · have := (hf j hj).2 c; omega
    · intro z
      obtain ⟨c1, -, -⟩ := two_on hU (show j < n by omega) hm (by omega) hd z hon
      exact c1 (hw0 _ c)
    · have := (hf j hj).1 c; omega
  have hdir : ∀ j, A j * (w * B m) + B j * (w * -A m) = w * cr A B j m := by
    intro j
    rw [← dir_cr]
    grind
  refine ⟨abvS m A B C X Y d, abv_lt m X Y d, fun s hs => ⟨?_, ?_⟩⟩
  · rintro ⟨⟨x', y', d', hd', q0, qo, e⟩, hg⟩
    rw [e]
    refine abv_eq (fun j hj => ?_)
    have g := hg j hj
    have q1 := abv_iff e hj
    have q2 := qo j hj
    rcases Int.lt_trichotomy (w * cr A B j m) 0 with c | c | c
    · have g2 := (hf j hj).2 c
      rcases hsb : s.testBit j with _ | _
      · have : ¬ 0 < ht A B C j x' y' d' := fun z => by have := q1.mpr z; rw [hsb] at this; cases this
        omega
      · rw [okd_t hsb, hdir] at g
        omega
    · exact pos_same hd' hd (par_same (hN m hm) (hw0 _ c) q0 hon)
    · have g2 := (hf j hj).1 c
      rcases hsb : s.testBit j with _ | _
      · rw [okd_f hsb, hdir] at g
        omega
      · have := q1.mp hsb
        omega
  · rintro rfl
    refine ⟨⟨X, Y, d, hd, hon, hoff, rfl⟩, fun j hj => ?_⟩
    have q1 := abv_iff (A := A) (B := B) (C := C) (x := X) (y := Y) (d := d) (m := m) rfl hj
    rcases hsb : (abvS m A B C X Y d).testBit j with _ | _
    · rw [okd_f hsb, hdir]
      rcases (show w * cr A B j m ≤ 0 ∨ 0 < w * cr A B j m by omega) with c | c
      · exact c
      · have := q1.mpr ((hf j hj).1 c)
        rw [hsb] at this
        cases this
    · rw [okd_t hsb, hdir]
      have := q1.mp hsb
      rcases (show w * cr A B j m < 0 ∨ 0 ≤ w * cr A B j m by omega) with c | c
      · have := (hf j hj).2 c
        omega
      · exact c
theorem NP_cross (hN : ∀ j, j < n → ¬ (A j = 0 ∧ B j = 0)) {m : Nat} (hm : m < n) (h : NP m A B) : ∃ j, j < m ∧ cr A B j m ≠ 0 := by
  obtain ⟨i, j, hi, hj, hc⟩ := h
  by_cases c1 : cr A B i m = 0
  · by_cases c2 : cr A B j m = 0
    · exact absurd (par_tr (hN m hm) c1 c2) hc
    · exact ⟨j, hj, c2⟩
  · exact ⟨i, hi, c1⟩
noncomputable def endB (A B C : Nat → Int) (m : Nat) (w : Int) (s : Nat) : Bool := bP (endL A B C m w s)
theorem cnt_end (hN : ∀ j, j < n → ¬ (A j = 0 ∧ B j = 0)) (hU : LU n A B C) {m : Nat} (hm : m < n) (hNP : NP m A B) : rk (fun s => endB A B C m 1 s || endB A B C m (-1) s) (2 ^ m) = 2 := by
  have h := rk_or_and (endB A B C m 1) (endB A B C m (-1)) (2 ^ m)
  obtain ⟨s1, h1, g1⟩ := end_one hN hU hm (w := 1) (Or.inl rfl)
  obtain ⟨s2, h2, g2⟩ := end_one hN hU hm (w := -1) (Or.inr rfl)
  have e1 : rk (endB A B C m 1) (2 ^ m) = 1 := rk_one h1 (fun s hs => by unfold endB; rw [bP_iff, g1 s hs])
  have e2 : rk (endB A B C m (-1)) (2 ^ m) = 1 := rk_one h2 (fun s hs => by unfold endB; rw [bP_iff, g2 s hs])
  have e3 : rk (fun s => endB A B C m 1 s && endB A B C m (-1) s) (2 ^ m) = 0 := rk_none (fun s hs => by
    apply Bool.eq_false_iff.mpr
    intro z
    rw [Bool.and_eq_true] at z
    unfold endB at z
    rw [bP_iff, bP_iff] at z
    obtain ⟨⟨-, z1⟩, ⟨-, z2⟩⟩ := z
    obtain ⟨j, hj, hc⟩ := NP_cross hN hm hNP
    have a1 := z1 j hj
    have a2 := z2 j hj
    have d1 : A j * (1 * B m) + B j * (1 * -A m) = cr A B j m := by rw [Int.one_mul, Int.one_mul, dir_cr]
    have d2 : A j * (-1 * B m) + B j * (-1 * -A m) = -cr A B j m := by rw [← dir_cr]; grind
    rcases hsb : s.testBit j with _ | _
    · rw [okd_f hsb] at a1 a2
      omega
    · rw [okd_t hsb] at a1 a2
      omega)
  omega
theorem flat_ub {m s : Nat} (hm : 0 < m) (hN : ∀ j, j < m → ¬ (A j = 0 ∧ B j = 0)) (h : ¬ NP m A B) : UB m A B s := by
  refine ⟨_, _, e_ne (hN 0 hm), fun k hk => ?_⟩
  have : cr A B k 0 = 0 := Classical.byContradiction (fun z => h ⟨k, 0, hk, hm, z⟩)
  rcases hsb : s.testBit k with _ | _
  · rw [okd_f hsb, dir_cr]; omega
  · rw [okd_t hsb, dir_cr]; omega
theorem rk_all {p : Nat → Bool} : ∀ {m : Nat}, (∀ i, i < m → p i = true) → rk p m = m
  | 0, _ => rfl
  | m + 1, h => by rw [rk_t (h m (by omega)), rk_all (fun i hi => h i (by omega))]
/-- as many ROOMS without bound as twice the LINES, once LINES cross -/
theorem cnt_ub (hN : ∀ j, j < n → ¬ (A j = 0 ∧ B j = 0)) (hU : LU n A B C) : ∀ m, m ≤ n → NP m A B → rk (ubB m A B C) (2 ^ m) = 2 * m
  | 0, _, h => by
    obtain ⟨i, -, hi, -⟩ := h
    exact absurd hi (Nat.not_lt_zero i)
  | m + 1, hm, hNP => by
    by_cases c : NP m A B
    · have ih := cnt_ub hN hU m (by omega) c
      rw [rk_dbl (q := ubB m A B C) (b := fun s => endB A B C m 1 s || endB A B C m (-1) s) (fun s hs => by
        rw [ubB_t, ubB_t, ubB_t]
        exact ub_one (hN m (by omega)) hs) (fun s hs => by
        rw [Bool.or_eq_true, ubB_t, ubB_t]
        unfold endB
        rw [bP_iff, bP_iff]
        exact ub_two (hN m (by omega)) c hs), ih, cnt_end hN hU (by omega) c]
      omega
    · -- the first LINE that crosses others
      have hz : ∀ i j, i < m → j < m → cr A B i j = 0 := fun i j hi hj => Classical.byContradiction (fun z => c ⟨i, j, hi, hj, z⟩)
      have hc : ∃ i, i < m ∧ cr A B i m ≠ 0 := by
        obtain ⟨i, j, hi, hj, z⟩ := hNP
        by_cases ei : i = m
        · subst ei
          by_cases ej : j = i
          · subst ej; exact absurd (cr_self A B j) z
          · exact ⟨j, by omega, fun w => z (by rw [cr_neg, w]; rfl)⟩
        · by_cases ej : j = m
          · subst ej; exact ⟨i, by omega, z⟩
          · exact absurd (hz i j (by omega) (by omega)) z
      obtain ⟨i, hi, hc⟩ := hc
      have hall : ∀ j, j < m → cr A B m j ≠ 0 := by
        intro j hj z
        have z' : cr A B m j = 0 := z
        exact hc (by rw [cr_neg, par_tr (hN j (by omega)) z' (hz i j hi hj)]; rfl)
      have hub : ∀ s, s < 2 ^ (m + 1) → ubB (m + 1) A B C s = rB (m + 1) A B C s := by
        intro s _
        have : UB (m + 1) A B s := by
          have c0 := hall 0 (by omega)
          have hz0 : ∀ k, k < m → cr A B k 0 = 0 := fun k hk => hz k 0 hk (by omega)
          have hstep : ∀ w : Int, (if s.testBit m then 0 ≤ w * cr A B m 0 else w * cr A B m 0 ≤ 0) → goes (m + 1) A B s (w * B 0) (w * -A 0) := by
            intro w hw k hk
            have e : A k * (w * B 0) + B k * (w * -A 0) = w * cr A B k 0 := by rw [← dir_cr]; grind
            by_cases ek : k = m
            · subst ek
              unfold okd
              rw [e]
              exact hw
            · have e0 := hz0 k (by omega)
              rw [e0, Int.mul_zero] at e
              unfold okd
              rw [e]
              split <;> omega
          rcases (show cr A B m 0 < 0 ∨ 0 < cr A B m 0 by omega) with c1 | c1
          · rcases hsb : s.testBit m with _ | _
            · refine ⟨_, _, ?_, hstep 1 (by rw [hsb, if_neg (by decide)]; omega)⟩
              rw [Int.one_mul, Int.one_mul]
              exact e_ne (hN 0 (by omega))
            · refine ⟨_, _, ?_, hstep (-1) (by rw [hsb, if_pos rfl]; omega)⟩
              rw [Int.neg_mul, Int.one_mul, Int.neg_mul, Int.one_mul, Int.neg_neg]
              exact e_ne' (hN 0 (by omega))
          · rcases hsb : s.testBit m with _ | _
            · refine ⟨_, _, ?_, hstep (-1) (by rw [hsb, if_neg (by decide)]; omega)⟩
              rw [Int.neg_mul, Int.one_mul, Int.neg_mul, Int.one_mul, Int.neg_neg]
              exact e_ne' (hN 0 (by omega))
            · refine ⟨_, _, ?_, hstep 1 (by rw [hsb, if_pos rfl]; omega)⟩
              rw [Int.one_mul, Int.one_mul]
              exact e_ne (hN 0 (by omega))
        unfold ubB
        rw [bP_t this, Bool.and_true]
      rw [rk_cong hub, cnt_rooms hN hU (m + 1) hm]
      have l0 : lowS A B C m = 0 := by
        unfold lowS
        apply sumN_0
        intro l hl
        exact rk_none (fun j hj => bP_f (fun z => z.1 (hz l j hl (by omega))))
      have l1 : rk (lowB A B C m) m = m := by
        apply rk_all
        intro j hj
        refine bP_t ⟨hall j hj, fun i' hi' z => ?_⟩
        obtain ⟨x, y, d, hd, h0, h1⟩ := cross_ex (C := C) (hall j hj)
        have h2 := (cross_ht hd (n := n) ⟨by omega, by omega, hall j hj, h0, h1⟩).mp z
        obtain ⟨c1, -, -⟩ := two_on hU (show i' < n by omega) (show j < n by omega) (by omega) hd h2 h1
        exact c1 (hz i' j (by omega) hj)
      have l2 : lowS A B C (m + 1) = lowS A B C m + rk (lowB A B C m) m := rfl
      omega
theorem rk_part (p q : Nat → Bool) : ∀ m, rk p m = rk (fun s => p s && q s) m + rk (fun s => p s && !q s) m
  | 0 => rfl
  | m + 1 => by
    have h := rk_part p q m
    rw [rk_s, rk_s, rk_s]
    cases p m <;> cases q m <;> simp <;> omega
/-- the BOUNDED ones -/
theorem cnt_bdd (hN : ∀ j, j < n → ¬ (A j = 0 ∧ B j = 0)) (hU : LU n A B C) (hNP : NP n A B) : rk (fun s => rB n A B C s && bdd n A B s) (2 ^ n) + 2 * n = 1 + n + lowS A B C n := by
  have h1 := rk_part (rB n A B C) (fun s => bdd n A B s) (2 ^ n)
  have hn : 0 < n := by obtain ⟨i, -, hi, -⟩ := hNP; omega
  have h2 : rk (fun s => rB n A B C s && !bdd n A B s) (2 ^ n) = rk (ubB n A B C) (2 ^ n) := by
    apply rk_cong
    intro s _
    unfold ubB
    congr 1
    rw [Bool.eq_iff_iff, bP_iff, Bool.not_eq_true', Bool.eq_false_iff, Ne, bdd_iff hN]
    constructor
    · intro z
      apply Classical.byContradiction
      intro w
      exact z ⟨hn, w⟩
    · intro z w
      exact w.2 z
  rw [h2, cnt_ub hN hU n (Nat.le_refl n) hNP, cnt_rooms hN hU n (Nat.le_refl n)] at h1
  omega
theorem cnt_bdd0 (hN : ∀ j, j < n → ¬ (A j = 0 ∧ B j = 0)) (hNP : ¬ NP n A B) (m : Nat) : rk (fun s => rB n A B C s && bdd n A B s) m = 0 := by
  apply rk_none
  intro s _
  apply Bool.eq_false_iff.mpr
  intro z
  rw [Bool.and_eq_true, bdd_iff hN] at z
  exact z.2.2 (flat_ub z.2.1 hN hNP)
end BC
