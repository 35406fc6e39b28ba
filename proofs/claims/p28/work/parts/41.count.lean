/-! ===== counting; at most 46 ROOMS ===== -/
section CT
def rk (p : Nat → Bool) : Nat → Nat
  | 0 => 0
  | s + 1 => rk p s + if p s then 1 else 0
theorem rk_0 (p : Nat → Bool) : rk p 0 = 0 := rfl
theorem rk_s (p : Nat → Bool) (s : Nat) : rk p (s + 1) = rk p s + if p s then 1 else 0 := rfl
theorem rk_t {p : Nat → Bool} {s : Nat} (h : p s = true) : rk p (s + 1) = rk p s + 1 := by rw [rk_s, if_pos h]
theorem rk_f {p : Nat → Bool} {s : Nat} (h : p s = false) : rk p (s + 1) = rk p s := by rw [rk_s, if_neg (by rw [h]; decide), Nat.add_zero]
theorem rk_mono {p : Nat → Bool} : ∀ {s t : Nat}, s ≤ t → rk p s ≤ rk p t := by
  intro s t h
  induction t with
  | zero => obtain rfl : s = 0 := by omega
            exact Nat.le_refl _
  | succ t ih =>
    by_cases e : s = t + 1
    · subst e; exact Nat.le_refl _
    · have := ih (by omega)
      rw [rk_s]; omega
theorem rk_le (p : Nat → Bool) : ∀ s, rk p s ≤ s
  | 0 => Nat.le_refl 0
  | s + 1 => by have := rk_le p s; rw [rk_s]; split <;> omega
theorem rk_cong {p q : Nat → Bool} : ∀ {s : Nat}, (∀ i, i < s → p i = q i) → rk p s = rk q s
  | 0, _ => rfl
  | s + 1, h => by rw [rk_s, rk_s, rk_cong (fun i hi => h i (by omega)), h s (by omega)]
theorem rk_sub {p q : Nat → Bool} : ∀ {s : Nat}, (∀ i, i < s → p i = true → q i = true) → rk p s ≤ rk q s
  | 0, _ => Nat.le_refl 0
  | s + 1, h => by
    have := rk_sub (s := s) (fun i hi => h i (by omega))
    rw [rk_s, rk_s]
    by_cases c : p s = true
    · rw [if_pos c, if_pos (h s (by omega) c)]; omega
    · rw [if_neg c]; omega
/-- a part that counts as much is the whole -/
theorem rk_sub_eq {p q : Nat → Bool} : ∀ {s : Nat}, (∀ i, i < s → p i = true → q i = true) → rk p s = rk q s → ∀ i, i < s → p i = q i
  | 0, _, _ => fun i hi => absurd hi (Nat.not_lt_zero i)
  | s + 1, h, e => by
    have h1 := rk_sub (s := s) (fun i hi => h i (by omega))
    rw [rk_s, rk_s] at e
    have hs := h s (by omega)
    have h2 : rk p s = rk q s ∧ p s = q s := by
      by_cases c : p s = true
      · rw [if_pos c, if_pos (hs c)] at e
        exact ⟨by omega, by rw [c, hs c]⟩
      · rw [if_neg c] at e
        by_cases c2 : q s = true
        · rw [if_pos c2] at e; omega
        · rw [if_neg c2] at e
          exact ⟨by omega, by rw [Bool.eq_false_iff.mpr c, Bool.eq_false_iff.mpr c2]⟩
    intro i hi
    by_cases ei : i = s
    · subst ei; exact h2.2
    · exact rk_sub_eq (s := s) (fun i hi => h i (by omega)) h2.1 i (by omega)
theorem rk_lt {p : Nat → Bool} {i s : Nat} (hi : i < s) (h : p i = true) : rk p i < rk p s := by
  have := rk_mono (p := p) (s := i + 1) (t := s) (by omega)
  rw [rk_t h] at this
  omega
theorem rk_inj {p : Nat → Bool} {i j : Nat} (hi : p i = true) (hj : p j = true) (e : rk p i = rk p j) : i = j := by
  rcases Nat.lt_trichotomy i j with c | c | c
  · have := rk_lt c hi; omega
  · exact c
  · have := rk_lt c hj; omega
/-- the one with a number -/
theorem rk_ex {p : Nat → Bool} : ∀ {s r : Nat}, r < rk p s → ∃ i, i < s ∧ p i = true ∧ rk p i = r
  | 0, r, h => absurd h (Nat.not_lt_zero r)
  | s + 1, r, h => by
    by_cases c : r < rk p s
    · obtain ⟨i, h1, h2, h3⟩ := rk_ex c
      exact ⟨i, by omega, h2, h3⟩
    · by_cases d : p s = true
      · rw [rk_t d] at h
        exact ⟨s, by omega, d, by omega⟩
      · rw [rk_f (Bool.eq_false_iff.mpr d)] at h
        omega
theorem rk_split (p : Nat → Bool) (m : Nat) : ∀ t, rk p (m + t) = rk p m + rk (fun s => p (m + s)) t
  | 0 => rfl
  | t + 1 => by
    rw [← Nat.add_assoc, rk_s, rk_s, rk_split p m t]
    omega
theorem rk_four {p q u v : Nat → Bool} : ∀ {m : Nat}, (∀ i, i < m → (if p i then 1 else 0) + (if q i then 1 else 0) ≤ (if u i then 1 else 0) + (if v i then (1 : Nat) else 0)) → rk p m + rk q m ≤ rk u m + rk v m
  | 0, _ => Nat.le_refl _
  | m + 1, h => by
    have h1 := rk_four (m := m) (fun i hi => h i (by omega))
    have h2 := h m (by omega)
    rw [rk_s, rk_s, rk_s, rk_s]
    omega
theorem rk_pt {p q : Nat → Bool} {s0 : Nat} : ∀ {m : Nat}, (∀ i, i < m → i ≠ s0 → p i = q i) → rk p m ≤ rk q m + 1
  | 0, _ => by rw [rk_0]; omega
  | m + 1, h => by
    by_cases e : m = s0
    · subst e
      have h1 := rk_cong (s := m) (fun i hi => h i (by omega) (by omega))
      rw [rk_s, rk_s, h1]
      split <;> omega
    · have h1 := rk_pt (m := m) (fun i hi => h i (by omega))
      rw [rk_s, rk_s, h m (by omega) e]
      omega
theorem pig {m : Nat} {f : Nat → Nat} : ∀ (b : Nat) (p : Nat → Bool), (∀ s, s < m → p s = true → f s < b) → (∀ s t, s < m → t < m → p s = true → p t = true → f s = f t → s = t) → rk p m ≤ b
  | 0, p, h, _ => by
    have : rk p m = rk (fun _ => false) m := rk_cong (fun i hi => by
      rcases hb : p i with _ | _
      · rfl
      · exact absurd (h i hi hb) (Nat.not_lt_zero _))
    have h2 : ∀ m, rk (fun _ => false) m = 0 := fun m => by
      induction m with
      | zero => rfl
      | succ m ih => rw [rk_s, ih]; rfl
    rw [this, h2]
    exact Nat.le_refl 0
  | b + 1, p, h, hi => by
    by_cases c : ∃ s0, s0 < m ∧ p s0 = true ∧ f s0 = b
    · obtain ⟨s0, h1, h2, h3⟩ := c
      have h4 := pig b (fun s => p s && decide (s ≠ s0)) (fun s hs hp => by
        rw [Bool.and_eq_true, decide_eq_true_eq] at hp
        have h5 := h s hs hp.1
        rcases Nat.lt_or_ge (f s) b with z | z
        · exact z
        · exact absurd (hi s s0 hs h1 hp.1 h2 (by omega)) hp.2) (fun s t hs ht ps pt e => by
        rw [Bool.and_eq_true] at ps pt
        exact hi s t hs ht ps.1 pt.1 e)
      have h5 := rk_pt (p := p) (q := fun s => p s && decide (s ≠ s0)) (s0 := s0) (m := m) (fun i _ e => by
        have : decide (i ≠ s0) = true := decide_eq_true e
        rw [this, Bool.and_true])
      omega
    · have h4 := pig b p (fun s hs hp => by
        have h5 := h s hs hp
        rcases Nat.lt_or_ge (f s) b with z | z
        · exact z
        · exact absurd ⟨s, hs, hp, by omega⟩ c) hi
      omega
/-- where the points of one LINE stand along it -/
def pos (A B : Nat → Int) (k : Nat) (x y : Int) : Int := A k * y - B k * x
theorem along_id {a b c p q e x y d x' y' d' : Int} (h1 : a * x + b * y - c * d = 0) (h2 : a * x' + b * y' - c * d' = 0) : (a * a + b * b) * ((p * x + q * y - e * d) * d' - (p * x' + q * y' - e * d') * d) = (q * a - p * b) * ((a * y - b * x) * d' - (a * y' - b * x') * d) := by grind
variable {n : Nat} {A B C : Nat → Int}
noncomputable def upS (n : Nat) (A B C : Nat → Int) (k : Nat) (x y d : Int) (j : Nat) : Bool := decide (0 < cr B A j k * ht A B C j x y d)
theorem chain {k : Nat} (hk : ¬ (A k = 0 ∧ B k = 0)) {x y d x' y' d' : Int} (hd : 0 < d) (hd' : 0 < d') (h1 : ht A B C k x y d = 0) (h2 : ht A B C k x' y' d' = 0) (hp : pos A B k x y * d' ≤ pos A B k x' y' * d) (j : Nat) : cr B A j k * ht A B C j x y d * d' ≤ cr B A j k * ht A B C j x' y' d' * d := by
  have e := along_id (p := A j) (q := B j) (e := C j) h1 h2
  have hsq := sq_pos hk
  unfold pos at hp
  unfold cr ht
  obtain ⟨N, hN⟩ : ∃ N, N = A k * A k + B k * B k := ⟨_, rfl⟩
  obtain ⟨U, hU⟩ : ∃ U, U = (A j * x + B j * y - C j * d) := ⟨_, rfl⟩
  obtain ⟨V, hV⟩ : ∃ U, U = (A j * x' + B j * y' - C j * d') := ⟨_, rfl⟩
  obtain ⟨S, hS⟩ : ∃ U, U = (B j * A k - A j * B k) := ⟨_, rfl⟩
  obtain ⟨W, hW⟩ : ∃ U, U = ((A k * y - B k * x) * d' - (A k * y' - B k * x') * d) := ⟨_, rfl⟩
  have eS : B j * A k - B k * A j = S := by rw [hS, Int.mul_comm (B k)]
  rw [eS]
  rw [← hN, ← hU, ← hV, ← hS, ← hW] at e
  rw [← hU, ← hV]
  have hW0 : W ≤ 0 := by omega
  have e2 : N * (S * U * d' - S * V * d) = S * S * W := by
    have e3 : N * (S * U * d' - S * V * d) = S * (N * (U * d' - V * d)) := by grind
    rw [e3, e]
    exact (Int.mul_assoc S S W).symm
  have h5 : S * S * W ≤ 0 := Int.mul_nonpos_of_nonneg_of_nonpos (sq0 S) hW0
  rcases (show 0 < (S * U * d' - S * V * d) ∨ (S * U * d' - S * V * d) ≤ 0 by omega) with z | z
  · have := Int.mul_pos (show 0 < N by omega) z
    omega
  · omega
theorem upS_mono {k : Nat} (hk : ¬ (A k = 0 ∧ B k = 0)) {x y d x' y' d' : Int} (hd : 0 < d) (hd' : 0 < d') (h1 : ht A B C k x y d = 0) (h2 : ht A B C k x' y' d' = 0) (hp : pos A B k x y * d' ≤ pos A B k x' y' * d) (j : Nat) (h : upS n A B C k x y d j = true) : upS n A B C k x' y' d' j = true := by
  unfold upS at *
  rw [decide_eq_true_eq] at *
  have h3 := chain hk hd hd' h1 h2 hp j
  have h4 := Int.mul_pos h hd'
  rcases (show 0 < (cr B A j k * ht A B C j x' y' d') ∨ (cr B A j k * ht A B C j x' y' d') ≤ 0 by omega) with z | z
  · exact z
  · have := Int.mul_nonpos_of_nonpos_of_nonneg z (Int.le_of_lt hd)
    omega
theorem upS_same {m k : Nat} (hk : ¬ (A k = 0 ∧ B k = 0)) {x y d x' y' d' : Int} (hd : 0 < d) (hd' : 0 < d') (h1 : ht A B C k x y d = 0) (h2 : ht A B C k x' y' d' = 0) (hz : ∀ j, j < m → ht A B C j x y d ≠ 0) (hz' : ∀ j, j < m → ht A B C j x' y' d' ≠ 0) (e : rk (upS n A B C k x y d) m = rk (upS n A B C k x' y' d') m) : ∀ j, j < m → (0 < ht A B C j x y d ↔ 0 < ht A B C j x' y' d') := by
  have hu : ∀ j, j < m → upS n A B C k x y d j = upS n A B C k x' y' d' j := by
    rcases Int.le_total (pos A B k x y * d') (pos A B k x' y' * d) with c | c
    · exact rk_sub_eq (fun j _ h => upS_mono hk hd hd' h1 h2 c j h) e
    · intro j hj
      exact (rk_sub_eq (fun j _ h => upS_mono hk hd' hd h2 h1 c j h) e.symm j hj).symm
  intro j hj
  have h3 := hu j hj
  unfold upS at h3
  have h4 := decide_eq_decide.mp h3
  have n1 := hz j hj
  have n2 := hz' j hj
  by_cases c0 : cr B A j k = 0
  · -- parallel: the height does not change
    have e2 := along_id (p := A j) (q := B j) (e := C j) h1 h2
    have hsq := sq_pos hk
    have c1 : B j * A k - A j * B k = 0 := by unfold cr at c0; rw [Int.mul_comm (A j)]; exact c0
    rw [c1, Int.zero_mul] at e2
    have e3 : ht A B C j x y d * d' = ht A B C j x' y' d' * d := by
      rcases Int.mul_eq_zero.mp e2 with z | z
      · omega
      · unfold ht; omega
    constructor
    · intro z
      have := Int.mul_pos z hd'
      rcases Int.lt_trichotomy (ht A B C j x' y' d') 0 with w | w | w
      · have := Int.mul_neg_of_neg_of_pos w hd; omega
      · exact absurd w n2
      · exact w
    · intro z
      have := Int.mul_pos z hd
      rcases Int.lt_trichotomy (ht A B C j x y d) 0 with w | w | w
      · have := Int.mul_neg_of_neg_of_pos w hd'; omega
      · exact absurd w n1
      · exact w
  · rcases Int.lt_trichotomy (cr B A j k) 0 with c | c | c
    · have f : ∀ v : Int, v ≠ 0 → (0 < cr B A j k * v ↔ v < 0) := by
        intro v hv
        constructor
        · intro z; rcases pos_of_mul z with ⟨a1, a2⟩ | ⟨a1, a2⟩ <;> omega
        · intro z; exact Int.mul_pos_of_neg_of_neg c z
      rw [f _ n1, f _ n2] at h4
      omega
    · exact absurd c c0
    · have f : ∀ v : Int, v ≠ 0 → (0 < cr B A j k * v ↔ 0 < v) := by
        intro v hv
        constructor
        · intro z; rcases pos_of_mul z with ⟨a1, a2⟩ | ⟨a1, a2⟩ <;> omega
        · intro z; exact Int.mul_pos c z
      rw [f _ n1, f _ n2] at h4
      exact h4
/-- with one LINE more -/
theorem real_low {n s : Nat} (h : Real (n + 1) A B C s) : Real n A B C (s % 2 ^ n) := by
  obtain ⟨x, y, d, ⟨hd, ho⟩, rfl⟩ := h
  refine ⟨x, y, d, ⟨hd, fun l hl => ho l (by omega)⟩, ?_⟩
  apply Nat.eq_of_testBit_eq
  intro l
  rw [Bool.eq_iff_iff, Nat.testBit_mod_two_pow, Bool.and_eq_true, decide_eq_true_eq, abvS_t, abvS_t]
  omega
theorem real_both {n s : Nat} (hs : s < 2 ^ n) (h1 : Real (n + 1) A B C s) (h2 : Real (n + 1) A B C (2 ^ n + s)) : ∃ x y d, 0 < d ∧ ht A B C n x y d = 0 ∧ (∀ j, j < n → ht A B C j x y d ≠ 0) ∧ s = abvS n A B C x y d := by
  obtain ⟨x, y, d, ⟨hd, ho⟩, e⟩ := h1
  obtain ⟨x', y', d', ⟨hd', ho'⟩, e'⟩ := h2
  have b1 : ∀ l, l < n → (s.testBit l = true ↔ 0 < ht A B C l x y d) := by
    intro l hl
    rw [e, abvS_t]
    omega
  have b2 : ∀ l, l < n → (s.testBit l = true ↔ 0 < ht A B C l x' y' d') := by
    intro l hl
    have : (2 ^ n + s).testBit l = s.testBit l := by rw [Nat.testBit_two_pow_add_gt hl]
    rw [← this, e', abvS_t]
    omega
  have c1 : ht A B C n x y d < 0 := by
    have z : ¬ s.testBit n = true := by rw [Nat.testBit_lt_two_pow hs]; decide
    rw [e, abvS_t] at z
    have := ho n (by omega)
    omega
  have c2 : 0 < ht A B C n x' y' d' := by
    have z : (2 ^ n + s).testBit n = true := by rw [Nat.testBit_two_pow_add_eq, Nat.testBit_lt_two_pow hs]; rfl
    rw [e', abvS_t] at z
    exact z.2
  obtain ⟨a, ha⟩ : ∃ a : Int, a = ht A B C n x' y' d' := ⟨_, rfl⟩
  obtain ⟨b, hb⟩ : ∃ b : Int, b = -ht A B C n x y d := ⟨_, rfl⟩
  have ha0 : 0 < a := by omega
  have hb0 : 0 < b := by omega
  have hl : ∀ j, j < n → ht A B C j (a * x + b * x') (a * y + b * y') (a * d + b * d') ≠ 0 ∧ (s.testBit j = true ↔ 0 < ht A B C j (a * x + b * x') (a * y + b * y') (a * d + b * d')) := by
    intro j hj
    rw [ht_comb]
    have n1 := ho j (by omega)
    have n2 := ho' j (by omega)
    have q1 := b1 j hj
    have q2 := b2 j hj
    by_cases c : s.testBit j = true
    · have := Int.mul_pos ha0 (q1.mp c)
      have := Int.mul_pos hb0 (q2.mp c)
      exact ⟨by omega, ⟨fun _ => by omega, fun _ => c⟩⟩
    · have p1 : ¬ 0 < ht A B C j x y d := fun z => c (q1.mpr z)
      have p2 : ¬ 0 < ht A B C j x' y' d' := fun z => c (q2.mpr z)
      have := Int.mul_neg_of_pos_of_neg ha0 (show ht A B C j x y d < 0 by omega)
      have := Int.mul_neg_of_pos_of_neg hb0 (show ht A B C j x' y' d' < 0 by omega)
      exact ⟨by omega, ⟨fun z => absurd z c, fun z => by omega⟩⟩
  refine ⟨_, _, _, ?_, ?_, fun j hj => (hl j hj).1, ?_⟩
  · have := Int.mul_pos ha0 hd
    have := Int.mul_pos hb0 hd'
    omega
  · rw [ht_comb, ha, hb]
    have := Int.mul_comm (ht A B C n x' y' d') (ht A B C n x y d)
    rw [Int.neg_mul]
    omega
  · apply Nat.eq_of_testBit_eq
    intro l
    rw [Bool.eq_iff_iff, abvS_t]
    by_cases c : l < n
    · rw [(hl l c).2]
      exact ⟨fun z => ⟨c, z⟩, fun z => z.2⟩
    · have : s.testBit l = false := Nat.testBit_lt_two_pow (Nat.lt_of_lt_of_le hs (Nat.pow_le_pow_right (by omega) (by omega)))
      rw [this]
      constructor
      · intro z; exact absurd z (by decide)
      · intro z; exact absurd z.1 c
noncomputable def rB (n : Nat) (A B C : Nat → Int) (s : Nat) : Bool := bP (Real n A B C s)
theorem rB_t {s : Nat} : rB n A B C s = true ↔ Real n A B C s := bP_iff
theorem cnt_both (m : Nat) (hk : ¬ (A m = 0 ∧ B m = 0)) : rk (fun s => rB (m + 1) A B C s && rB (m + 1) A B C (2 ^ m + s)) (2 ^ m) ≤ m + 1 := by
  have hex : ∃ g : Nat → Int × Int × Int, ∀ s, s < 2 ^ m → (rB (m + 1) A B C s && rB (m + 1) A B C (2 ^ m + s)) = true → 0 < (g s).2.2 ∧ ht A B C m (g s).1 (g s).2.1 (g s).2.2 = 0 ∧ (∀ j, j < m → ht A B C j (g s).1 (g s).2.1 (g s).2.2 ≠ 0) ∧ s = abvS m A B C (g s).1 (g s).2.1 (g s).2.2 := by
    have h1 : ∀ s, ∃ g : Int × Int × Int, s < 2 ^ m → (rB (m + 1) A B C s && rB (m + 1) A B C (2 ^ m + s)) = true → 0 < g.2.2 ∧ ht A B C m g.1 g.2.1 g.2.2 = 0 ∧ (∀ j, j < m → ht A B C j g.1 g.2.1 g.2.2 ≠ 0) ∧ s = abvS m A B C g.1 g.2.1 g.2.2 := by
      intro s
      by_cases hs : s < 2 ^ m
      · by_cases hb : (rB (m + 1) A B C s && rB (m + 1) A B C (2 ^ m + s)) = true
        · have hb' := hb
          rw [Bool.and_eq_true, rB_t, rB_t] at hb'
          obtain ⟨x, y, d, h⟩ := real_both hs hb'.1 hb'.2
          exact ⟨(x, y, d), fun _ _ => h⟩
        · exact ⟨(0, 0, 0), fun _ z => absurd z hb⟩
      · exact ⟨(0, 0, 0), fun z => absurd z hs⟩
    exact ⟨fun s => Classical.choose (h1 s), fun s => Classical.choose_spec (h1 s)⟩
  obtain ⟨g, hg⟩ := hex
  refine pig (f := fun s => rk (upS m A B C m (g s).1 (g s).2.1 (g s).2.2) m) (m + 1) _ (fun s _ _ => Nat.lt_succ_of_le (rk_le _ m)) (fun s t hs ht ps pt e => ?_)
  obtain ⟨a1, a2, a3, a4⟩ := hg s hs ps
  obtain ⟨b1, b2, b3, b4⟩ := hg t ht pt
  rw [a4, b4]
  exact abv_eq (upS_same hk a1 b1 a2 b2 a3 b3 e)
theorem cnt_real : ∀ (n : Nat), (∀ j, j < n → ¬ (A j = 0 ∧ B j = 0)) → rk (rB n A B C) (2 ^ n) ≤ tri (n + 1) + 1
  | 0, _ => by
    have := rk_le (rB 0 A B C) (2 ^ 0)
    rw [show tri (0 + 1) = 0 from rfl]
    exact this
  | n + 1, hN => by
    have h1 := cnt_real n (fun j hj => hN j (by omega))
    have h2 := cnt_both (A := A) (B := B) (C := C) n (hN n (by omega))
    have e : 2 ^ (n + 1) = 2 ^ n + 2 ^ n := by rw [Nat.pow_succ]; omega
    rw [e, rk_split]
    have h3 := rk_four (p := rB (n + 1) A B C) (q := fun s => rB (n + 1) A B C (2 ^ n + s)) (u := rB n A B C) (v := fun s => rB (n + 1) A B C s && rB (n + 1) A B C (2 ^ n + s)) (m := 2 ^ n) (fun i hi => by
      have q1 : rB (n + 1) A B C i = true → rB n A B C i = true := by
        intro z
        have := real_low (rB_t.mp z)
        rw [Nat.mod_eq_of_lt hi] at this
        exact rB_t.mpr this
      have q2 : rB (n + 1) A B C (2 ^ n + i) = true → rB n A B C i = true := by
        intro z
        have := real_low (rB_t.mp z)
        rw [Nat.add_mod_left, Nat.mod_eq_of_lt hi] at this
        exact rB_t.mpr this
      cases h1 : rB (n + 1) A B C i <;> cases h2 : rB (n + 1) A B C (2 ^ n + i)
      · simp
      · rw [q2 h2]; simp
      · rw [q1 h1]; simp
      · rw [q1 h1]; simp)
    have e2 : tri (n + 1 + 1) = tri (n + 1) + (n + 1) := rfl
    omega
theorem cnt_46 (hn : n ≤ 9) (hN : ∀ j, j < n → ¬ (A j = 0 ∧ B j = 0)) : rk (rB n A B C) (2 ^ n) ≤ 46 := by
  have h1 := cnt_real (A := A) (B := B) (C := C) n hN
  have h2 : ∀ n, n < 10 → tri (n + 1) + 1 ≤ 46 := by decide
  have := h2 n (by omega)
  omega
theorem cnt_512 (hn : n ≤ 9) (hN : ∀ j, j < n → ¬ (A j = 0 ∧ B j = 0)) : rk (rB n A B C) 512 ≤ 46 := by
  have h1 := cnt_46 (C := C) hn hN
  have h2 : 2 ^ n ≤ 512 := Nat.pow_le_pow_right (n := 2) (by omega) hn
  have h3 := rk_split (rB n A B C) (2 ^ n) (512 - 2 ^ n)
  rw [show 2 ^ n + (512 - 2 ^ n) = 512 by omega] at h3
  have h4 : rk (fun s => rB n A B C (2 ^ n + s)) (512 - 2 ^ n) = rk (fun _ => false) (512 - 2 ^ n) := rk_cong (fun i _ => by
    apply Bool.eq_false_iff.mpr
    intro z
    have := real_lt (rB_t.mp z)
    omega)
  have h5 : ∀ m, rk (fun _ => false) m = 0 := fun m => by
    induction m with
    | zero => rfl
    | succ m ih => rw [rk_s, ih]; rfl
  rw [h4, h5] at h3
  omega
end CT

