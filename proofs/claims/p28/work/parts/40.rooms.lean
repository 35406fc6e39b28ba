/-! ===== ROOMS: sets that a point off all LINES shows ===== -/
section RM
def Off (n : Nat) (A B C : Nat → Int) (x y d : Int) : Prop := 0 < d ∧ ∀ l, l < n → ht A B C l x y d ≠ 0
def Real (n : Nat) (A B C : Nat → Int) (s : Nat) : Prop := ∃ x y d, Off n A B C x y d ∧ s = abvS n A B C x y d
def Sing (n : Nat) (A B C : Nat → Int) (k : Nat) (x y d : Int) : Prop := k < n ∧ 0 < d ∧ ht A B C k x y d = 0 ∧ ∀ j, j < n → j ≠ k → ht A B C j x y d ≠ 0
def Sd (n : Nat) (A B C : Nat → Int) (k s : Nat) : Prop := ∃ x y d, Sing n A B C k x y d ∧ (s = abvS n A B C x y d ∨ s = abvS n A B C x y d ||| 2 ^ k)
variable {n : Nat} {A B C : Nat → Int}
theorem abv_eq {x y d x' y' d' : Int} (h : ∀ l, l < n → (0 < ht A B C l x y d ↔ 0 < ht A B C l x' y' d')) : abvS n A B C x y d = abvS n A B C x' y' d' := by
  unfold abvS
  exact bset_cong (fun l hl => decide_eq_decide.mpr (h l hl))
theorem abv_or {x y d x' y' d' : Int} {k : Nat} (hk : k < n) (h : ∀ l, l < n → l ≠ k → (0 < ht A B C l x y d ↔ 0 < ht A B C l x' y' d')) (h2 : 0 < ht A B C k x' y' d') : abvS n A B C x y d ||| 2 ^ k = abvS n A B C x' y' d' := by
  apply Nat.eq_of_testBit_eq
  intro l
  rw [Bool.eq_iff_iff, Nat.testBit_or, Bool.or_eq_true, abvS_t, abvS_t, Nat.testBit_two_pow, decide_eq_true_eq]
  by_cases e : l = k
  · subst e
    exact ⟨fun _ => ⟨hk, h2⟩, fun _ => Or.inr rfl⟩
  · constructor
    · rintro (⟨h1, h3⟩ | h1)
      · exact ⟨h1, (h l h1 e).mp h3⟩
      · exact absurd h1.symm e
    · rintro ⟨h1, h3⟩
      exact Or.inl ⟨h1, (h l h1 e).mpr h3⟩
theorem sqp {a : Int} (h : a ≠ 0) : 0 < a * a := by
  rcases Int.lt_trichotomy a 0 with g | g | g
  · exact Int.mul_pos_of_neg_of_neg g g
  · exact absurd g h
  · exact Int.mul_pos g g
theorem sq0 (a : Int) : 0 ≤ a * a := by
  by_cases h : a = 0
  · subst h; omega
  · have := sqp h; omega
theorem sq_pos {a b : Int} (h : ¬ (a = 0 ∧ b = 0)) : 0 < a * a + b * b := by
  have h1 := sq0 a
  have h2 := sq0 b
  by_cases ha : a = 0
  · have hb : b ≠ 0 := fun z => h ⟨ha, z⟩
    have := sqp hb
    omega
  · have := sqp ha
    omega
theorem ht_shift (A B C : Nat → Int) (j : Nat) (x y d t u v : Int) : ht A B C j (t * x + u) (t * y + v) (t * d) = t * ht A B C j x y d + (A j * u + B j * v) := by
  unfold ht
  grind
theorem ev_lin_pos {a b : Int} (h : 0 < a) : Ev (fun T => 0 < (T : Int) * a + b) := by
  refine (ev_quad_pos (α := 0) (β := a) (γ := b) (Or.inr (Or.inl ⟨rfl, h⟩))).mono (fun T hT => ?_)
  have := Int.mul_comm a T
  omega
theorem ev_lin_neg {a b : Int} (h : a < 0) : Ev (fun T => (T : Int) * a + b < 0) := by
  refine (ev_quad_neg (α := 0) (β := a) (γ := b) (Or.inr (Or.inl ⟨rfl, h⟩))).mono (fun T hT => ?_)
  have := Int.mul_comm a T
  omega
/-- near a point, a bit off it -/
theorem ev_near (x y d : Int) (U V : Int) : Ev (fun T => ∀ j, j < n → (0 < ht A B C j x y d → 0 < ht A B C j ((T : Int) * x + U) ((T : Int) * y + V) ((T : Int) * d)) ∧ (ht A B C j x y d < 0 → ht A B C j ((T : Int) * x + U) ((T : Int) * y + V) ((T : Int) * d) < 0)) := by
  refine Ev.all n (fun j hj => ?_)
  rcases Int.lt_trichotomy (ht A B C j x y d) 0 with c | c | c
  · refine (ev_lin_neg (b := A j * U + B j * V) c).mono (fun T hT => ⟨fun z => by omega, fun _ => ?_⟩)
    rw [ht_shift]; exact hT
  · exact Ev.tr (fun T => ⟨fun z => by omega, fun z => by omega⟩)
  · refine (ev_lin_pos (b := A j * U + B j * V) c).mono (fun T hT => ⟨fun _ => ?_, fun z => by omega⟩)
    rw [ht_shift]; exact hT
theorem near_ex (n : Nat) (A B C : Nat → Int) (x y d : Int) (U V : Int) : ∃ T : Nat, 0 < T ∧ ∀ j, j < n → (0 < ht A B C j x y d → 0 < ht A B C j ((T : Int) * x + U) ((T : Int) * y + V) ((T : Int) * d)) ∧ (ht A B C j x y d < 0 → ht A B C j ((T : Int) * x + U) ((T : Int) * y + V) ((T : Int) * d) < 0) := (ev_near x y d U V).ex
theorem sing_real (hN : ∀ j, j < n → ¬ (A j = 0 ∧ B j = 0)) {k : Nat} {x y d : Int} (h : Sing n A B C k x y d) : Real n A B C (abvS n A B C x y d) ∧ Real n A B C (abvS n A B C x y d ||| 2 ^ k) := by
  obtain ⟨hk, hd, h0, hj⟩ := h
  have hsq := sq_pos (hN k hk)
  constructor
  · obtain ⟨T, hT, hT2⟩ := near_ex n A B C x y d (-A k) (-B k)
    have hk' : ht A B C k ((T : Int) * x + -A k) ((T : Int) * y + -B k) ((T : Int) * d) < 0 := by
      rw [ht_shift, h0, Int.mul_neg, Int.mul_neg]
      omega
    have hc : ∀ l, l < n → (0 < ht A B C l x y d ↔ 0 < ht A B C l ((T : Int) * x + -A k) ((T : Int) * y + -B k) ((T : Int) * d)) := by
      intro l hl
      by_cases e : l = k
      · subst e; omega
      · have h1 := hj l hl e
        have h2 := hT2 l hl
        rcases Int.lt_trichotomy (ht A B C l x y d) 0 with c | c | c
        · have := h2.2 c; omega
        · exact absurd c h1
        · have := h2.1 c; omega
    refine ⟨_, _, _, ⟨Int.mul_pos (by omega) hd, fun l hl => ?_⟩, abv_eq hc⟩
    by_cases e : l = k
    · subst e; omega
    · have h1 := hj l hl e
      have h2 := hT2 l hl
      rcases Int.lt_trichotomy (ht A B C l x y d) 0 with c | c | c
      · have := h2.2 c; omega
      · exact absurd c h1
      · have := h2.1 c; omega
  · obtain ⟨T, hT, hT2⟩ := near_ex n A B C x y d (A k) (B k)
    have hk' : 0 < ht A B C k ((T : Int) * x + A k) ((T : Int) * y + B k) ((T : Int) * d) := by
      rw [ht_shift, h0]
      omega
    have hc : ∀ l, l < n → l ≠ k → (0 < ht A B C l x y d ↔ 0 < ht A B C l ((T : Int) * x + A k) ((T : Int) * y + B k) ((T : Int) * d)) := by
      intro l hl e
      have h1 := hj l hl e
      have h2 := hT2 l hl
      rcases Int.lt_trichotomy (ht A B C l x y d) 0 with c | c | c
      · have := h2.2 c; omega
      · exact absurd c h1
      · have := h2.1 c; omega
    refine ⟨_, _, _, ⟨Int.mul_pos (by omega) hd, fun l hl => ?_⟩, abv_or hk hc hk'⟩
    by_cases e : l = k
    · subst e; omega
    · have h1 := hj l hl e
      have h2 := hT2 l hl
      rcases Int.lt_trichotomy (ht A B C l x y d) 0 with c | c | c
      · have := h2.2 c; omega
      · exact absurd c h1
      · have := h2.1 c; omega
theorem mirror_ht (A B C : Nat → Int) (x y d h : Int) (hh : h = A 0 * x + B 0 * y - C 0 * d) : A 0 * ((A 0 * A 0 + B 0 * B 0) * x - 2 * h * A 0) + B 0 * ((A 0 * A 0 + B 0 * B 0) * y - 2 * h * B 0) - C 0 * ((A 0 * A 0 + B 0 * B 0) * d) = -((A 0 * A 0 + B 0 * B 0) * h) := by
  subst hh
  grind
theorem neg_sq_mul {a h : Int} (ha : 0 < a) (hh : h ≠ 0) : h * -(a * h) < 0 := by
  have h1 := sqp hh
  have h2 := Int.mul_pos ha h1
  have e : h * -(a * h) = -(a * (h * h)) := by grind
  omega
theorem real_sing (hN : ∀ j, j < n → ¬ (A j = 0 ∧ B j = 0)) (hU : LU n A B C) (hn : 0 < n) {s : Nat} (h : Real n A B C s) : ∃ k, k < n ∧ Sd n A B C k s := by
  obtain ⟨x, y, d, ⟨hd, hoff⟩, rfl⟩ := h
  have hsq := sq_pos (hN 0 hn)
  obtain ⟨k, hk, ⟨x', y', d', hd', h0, hj⟩, -⟩ := geo hN hU hd (Int.mul_pos hsq hd) hoff hn (qx := (A 0 * A 0 + B 0 * B 0) * x - 2 * (ht A B C 0 x y d) * A 0) (qy := (A 0 * A 0 + B 0 * B 0) * y - 2 * (ht A B C 0 x y d) * B 0) (by
    have e := mirror_ht A B C x y d (ht A B C 0 x y d) rfl
    show ht A B C 0 x y d * (A 0 * ((A 0 * A 0 + B 0 * B 0) * x - 2 * (ht A B C 0 x y d) * A 0) + B 0 * ((A 0 * A 0 + B 0 * B 0) * y - 2 * (ht A B C 0 x y d) * B 0) - C 0 * ((A 0 * A 0 + B 0 * B 0) * d)) < 0
    rw [e]
    exact neg_sq_mul hsq (hoff 0 hn))
  have hc : ∀ l, l < n → l ≠ k → (0 < ht A B C l x' y' d' ↔ 0 < ht A B C l x y d) := by
    intro l hl e
    rcases pos_of_mul (hj l hl e) with ⟨a1, a2⟩ | ⟨a1, a2⟩ <;> omega
  refine ⟨k, hk, x', y', d', ⟨hk, hd', h0, fun j hj' e => ?_⟩, ?_⟩
  · rcases pos_of_mul (hj j hj' e) with ⟨a1, a2⟩ | ⟨a1, a2⟩ <;> omega
  · by_cases c : 0 < ht A B C k x y d
    · exact Or.inr (abv_or hk hc c).symm
    · refine Or.inl (abv_eq (fun l hl => ?_))
      by_cases e : l = k
      · subst e; omega
      · exact (hc l hl e).symm
theorem real_iff (hN : ∀ j, j < n → ¬ (A j = 0 ∧ B j = 0)) (hU : LU n A B C) (hn : 0 < n) (s : Nat) : Real n A B C s ↔ ∃ k, k < n ∧ Sd n A B C k s := by
  constructor
  · exact real_sing hN hU hn
  · rintro ⟨k, hk, x, y, d, h1, rfl | rfl⟩
    · exact (sing_real hN h1).1
    · exact (sing_real hN h1).2
theorem real_0 {s : Nat} : Real 0 A B C s ↔ s = 0 := by
  constructor
  · rintro ⟨x, y, d, -, rfl⟩; rfl
  · rintro rfl
    exact ⟨0, 0, 1, ⟨by omega, fun l hl => absurd hl (Nat.not_lt_zero l)⟩, rfl⟩
theorem real_lt {s : Nat} (h : Real n A B C s) : s < 2 ^ n := by
  obtain ⟨x, y, d, -, rfl⟩ := h
  exact bset_lt _ _
/-! along one LINE -/
theorem lt3_mid {x y d x' y' d' a b : Int} (hb : 0 < b) (h : lt3 x y d x' y' d') : lt3 x y d (a * x + b * x') (a * y + b * y') (a * d + b * d') := by
  unfold lt3 at *
  have e1 : x * (a * d + b * d') = a * (x * d) + b * (x * d') := by grind
  have e2 : (a * x + b * x') * d = a * (x * d) + b * (x' * d) := by grind
  have e3 : y * (a * d + b * d') = a * (y * d) + b * (y * d') := by grind
  have e4 : (a * y + b * y') * d = a * (y * d) + b * (y' * d) := by grind
  rw [e1, e2, e3, e4]
  rcases h with h | ⟨h1, h2⟩
  · left
    have := Int.mul_lt_mul_of_pos_left h hb
    omega
  · right
    rw [h1]
    have := Int.mul_lt_mul_of_pos_left h2 hb
    omega
theorem lt3_mid' {x y d x' y' d' a b : Int} (ha : 0 < a) (h : lt3 x y d x' y' d') : lt3 (a * x + b * x') (a * y + b * y') (a * d + b * d') x' y' d' := by
  unfold lt3 at *
  have e1 : x' * (a * d + b * d') = a * (x' * d) + b * (x' * d') := by grind
  have e2 : (a * x + b * x') * d' = a * (x * d') + b * (x' * d') := by grind
  have e3 : y' * (a * d + b * d') = a * (y' * d) + b * (y' * d') := by grind
  have e4 : (a * y + b * y') * d' = a * (y * d') + b * (y' * d') := by grind
  rw [e1, e2, e3, e4]
  rcases h with h | ⟨h1, h2⟩
  · left
    have := Int.mul_lt_mul_of_pos_left h ha
    omega
  · right
    rw [h1]
    have := Int.mul_lt_mul_of_pos_left h2 ha
    omega
theorem eq3_ht {A B C : Nat → Int} {j : Nat} {x y d x' y' d' : Int} (e : eq3 x y d x' y' d') : ht A B C j x y d * d' = ht A B C j x' y' d' * d := by
  obtain ⟨e1, e2⟩ := e
  unfold ht
  grind
theorem eq3_sign {A B C : Nat → Int} {j : Nat} {x y d x' y' d' : Int} (hd : 0 < d) (hd' : 0 < d') (e : eq3 x y d x' y' d') (h : ht A B C j x y d * ht A B C j x' y' d' < 0) : False := by
  have e1 := eq3_ht (A := A) (B := B) (C := C) (j := j) e
  rcases neg_of_mul h with ⟨a1, a2⟩ | ⟨a1, a2⟩
  · have := Int.mul_pos a1 hd'
    have := Int.mul_neg_of_neg_of_pos a2 hd
    omega
  · have := Int.mul_neg_of_neg_of_pos a1 hd'
    have := Int.mul_pos a2 hd
    omega
/-- lt3 does not see a common factor -/
theorem lt3_eq3 {x y d x' y' d' x'' y'' d'' : Int} (hd : 0 < d) (hd' : 0 < d') (hd'' : 0 < d'') (h : lt3 x y d x' y' d') (e : eq3 x' y' d' x'' y'' d'') : lt3 x y d x'' y'' d'' := by
  unfold lt3 eq3 at *
  have a1 := r3 x d'' d'
  have a2 := r3 x' d d''
  have a3 := r3 x'' d' d
  have b1 := r3 y d'' d'
  have b2 := r3 y' d d''
  have b3 := r3 y'' d' d
  have e1 : x' * d'' * d = x'' * d' * d := by rw [e.1]
  have e2 : y' * d'' * d = y'' * d' * d := by rw [e.2]
  rcases h with h | ⟨h1, h2⟩
  · left
    have := mul_lt_c h hd''
    apply lt_mul_c (c := d') _ hd'
    omega
  · right
    constructor
    · have : x * d' * d'' = x' * d * d'' := by rw [h1]
      apply eq_mul_c (c := d') _ hd'
      omega
    · have := mul_lt_c h2 hd''
      apply lt_mul_c (c := d') _ hd'
      omega
theorem eq3_lt3 {x y d x' y' d' x'' y'' d'' : Int} (hd : 0 < d) (hd' : 0 < d') (hd'' : 0 < d'') (h : lt3 x' y' d' x y d) (e : eq3 x' y' d' x'' y'' d'') : lt3 x'' y'' d'' x y d := by
  rcases lt3_tri x'' y'' d'' x y d with c | c | c
  · exact c
  · exfalso
    have := lt3_eq3 hd' hd hd'' h ⟨c.1.symm, c.2.symm⟩
    exact lt3_irr this e
  · exfalso
    have h2 := lt3_tr hd' hd hd'' h c
    exact lt3_irr h2 e
theorem nonneg_abs_comb {h h' : Int} (hh : h * h' < 0) : (h'.natAbs : Int) * h + (h.natAbs : Int) * h' = 0 := by
  rcases neg_of_mul hh with ⟨a1, a2⟩ | ⟨a1, a2⟩
  · have e1 : (h'.natAbs : Int) = -h' := by omega
    have e2 : (h.natAbs : Int) = h := by omega
    rw [e1, e2]; grind
  · have e1 : (h'.natAbs : Int) = h' := by omega
    have e2 : (h.natAbs : Int) = -h := by omega
    rw [e1, e2]; grind
/-- a change of side along a LINE: a MEET lies between -/
theorem between (hU : LU n A B C) {K : Nat} {X Y D : Nat → Int} (hM : MSp n A B C K X Y D) {k j : Nat} (hk : k < n) (hj : j < n) {x y d x' y' d' : Int} (hd : 0 < d) (hd' : 0 < d') (h1 : ht A B C k x y d = 0) (h2 : ht A B C k x' y' d' = 0) (hs : ht A B C j x y d * ht A B C j x' y' d' < 0) :
    ∃ i, i < K ∧ ht A B C k (X i) (Y i) (D i) = 0 ∧ ((lt3 x y d (X i) (Y i) (D i) ∧ lt3 (X i) (Y i) (D i) x' y' d') ∨ (lt3 x' y' d' (X i) (Y i) (D i) ∧ lt3 (X i) (Y i) (D i) x y d)) := by
  have hne : ht A B C j x y d ≠ 0 ∧ ht A B C j x' y' d' ≠ 0 := by
    constructor <;> intro z <;> rw [z] at hs <;> simp at hs
  obtain ⟨a, ha⟩ : ∃ a : Int, a = ((ht A B C j x' y' d').natAbs : Int) := ⟨_, rfl⟩
  obtain ⟨b, hb⟩ : ∃ b : Int, b = ((ht A B C j x y d).natAbs : Int) := ⟨_, rfl⟩
  have ha0 : 0 < a := by omega
  have hb0 : 0 < b := by omega
  have hjk : j ≠ k := by intro z; subst z; exact hne.1 h1
  have z1 : ht A B C k (a * x + b * x') (a * y + b * y') (a * d + b * d') = 0 := by rw [ht_comb, h1, h2]; simp
  have z2 : ht A B C j (a * x + b * x') (a * y + b * y') (a * d + b * d') = 0 := by rw [ht_comb, ha, hb]; exact nonneg_abs_comb hs
  have zd : 0 < a * d + b * d' := by have := Int.mul_pos ha0 hd; have := Int.mul_pos hb0 hd'; omega
  obtain ⟨c1, -, -⟩ := two_on hU hj hk hjk zd z2 z1
  obtain ⟨i, hi, hat⟩ := hM.2.2 j k trivial hj hk c1
  have hD : 0 < D i := (hM.1 i hi).1.1
  have hz : At n A B C j k (a * x + b * x') (a * y + b * y') (a * d + b * d') := ⟨hj, hk, c1, z2, z1⟩
  have e := at_eq3 hz hat
  refine ⟨i, hi, hat.2.2.2.2, ?_⟩
  rcases lt3_tri x y d x' y' d' with c | c | c
  · left
    exact ⟨lt3_eq3 hd zd hD (lt3_mid hb0 c) e, eq3_lt3 hd' zd hD (lt3_mid' ha0 c) e⟩
  · exact absurd hs (fun z => eq3_sign hd hd' c z)
  · right
    have m1 := lt3_mid (a := b) ha0 c
    have m2 := lt3_mid' (b := a) hb0 c
    have w1 : b * x' + a * x = a * x + b * x' := Int.add_comm _ _
    have w2 : b * y' + a * y = a * y + b * y' := Int.add_comm _ _
    have w3 : b * d' + a * d = a * d + b * d' := Int.add_comm _ _
    rw [w1, w2, w3] at m1 m2
    exact ⟨lt3_eq3 hd' zd hD m1 e, eq3_lt3 hd zd hD m2 e⟩
/-- the same gap among the MEETS of a LINE: the same set -/
theorem same_gap (hU : LU n A B C) {K : Nat} {X Y D : Nat → Int} (hM : MSp n A B C K X Y D) {k : Nat} {x y d x' y' d' : Int} (h : Sing n A B C k x y d) (h' : Sing n A B C k x' y' d')
    (hg : ∀ i, i < K → ht A B C k (X i) (Y i) (D i) = 0 → (lt3 (X i) (Y i) (D i) x y d ↔ lt3 (X i) (Y i) (D i) x' y' d')) : abvS n A B C x y d = abvS n A B C x' y' d' := by
  refine abv_eq (fun l hl => ?_)
  by_cases e : l = k
  · subst e
    rw [h.2.2.1, h'.2.2.1]
  · have a1 := h.2.2.2 l hl e
    have a2 := h'.2.2.2 l hl e
    by_cases hs : ht A B C l x y d * ht A B C l x' y' d' < 0
    · obtain ⟨i, hi, h0, ⟨c1, c2⟩ | ⟨c1, c2⟩⟩ := between hU hM h.1 hl h.2.1 h'.2.1 h.2.2.1 h'.2.2.1 hs
      · exact absurd ((hg i hi h0).mpr c2) (fun z => lt3_asy c1 z)
      · exact absurd ((hg i hi h0).mp c2) (fun z => lt3_asy c1 z)
    · constructor
      · intro c
        rcases Int.lt_trichotomy (ht A B C l x' y' d') 0 with z | z | z
        · exact absurd (Int.mul_neg_of_pos_of_neg c z) hs
        · exact absurd z a2
        · exact z
      · intro c
        rcases Int.lt_trichotomy (ht A B C l x y d) 0 with z | z | z
        · exact absurd (Int.mul_neg_of_neg_of_pos z c) hs
        · exact absurd z a1
        · exact z
/-- on a LINE and on no MEET: on that LINE alone -/
theorem sing_of (hU : LU n A B C) {K : Nat} {X Y D : Nat → Int} (hM : MSp n A B C K X Y D) {k : Nat} (hk : k < n) {x y d : Int} (hd : 0 < d) (h0 : ht A B C k x y d = 0) (hno : ∀ i, i < K → ht A B C k (X i) (Y i) (D i) = 0 → ¬ eq3 (X i) (Y i) (D i) x y d) : Sing n A B C k x y d := by
  refine ⟨hk, hd, h0, fun j hj e hz => ?_⟩
  obtain ⟨c1, -, -⟩ := two_on hU hj hk e hd hz h0
  obtain ⟨i, hi, hat⟩ := hM.2.2 j k trivial hj hk c1
  exact hno i hi hat.2.2.2.2 (at_eq3 hat ⟨hj, hk, c1, hz, h0⟩)
theorem sing_ne {K : Nat} {X Y D : Nat → Int} (hM : MSp n A B C K X Y D) {k : Nat} {x y d : Int} (h : Sing n A B C k x y d) {i : Nat} (hi : i < K) : ¬ eq3 (X i) (Y i) (D i) x y d := by
  intro e
  obtain ⟨hr, a, b, -, hat⟩ := hM.1 i hi
  have hz : ∀ l, ht A B C l (X i) (Y i) (D i) = 0 → ht A B C l x y d = 0 := by
    intro l hl
    have := eq3_ht (A := A) (B := B) (C := C) (j := l) e
    rw [hl, Int.zero_mul] at this
    rcases Int.mul_eq_zero.mp this.symm with z | z
    · exact z
    · have := hr.1; omega
  have ha := hz a hat.2.2.2.1
  have hb := hz b hat.2.2.2.2
  by_cases ea : a = k
  · by_cases eb : b = k
    · subst ea; subst eb
      exact hat.2.2.1 (cr_self A B _)
    · exact h.2.2.2 b hat.2.1 eb hb
  · exact h.2.2.2 a hat.1 ea ha
end RM

