/-! ===== the row of MEETS ===== -/
section ROW
/-- the point p is ahead of the point q -/
def lt3 (x y d x' y' d' : Int) : Prop := x * d' < x' * d ∨ (x * d' = x' * d ∧ y * d' < y' * d)
def eq3 (x y d x' y' d' : Int) : Prop := x * d' = x' * d ∧ y * d' = y' * d
def red3 (x y d : Int) : Prop := 0 < d ∧ Int.gcd (Int.gcd x y) d = 1
theorem mul_lt_c {a b c : Int} (h : a < b) (hc : 0 < c) : a * c < b * c := Int.mul_lt_mul_of_pos_right h hc
theorem lt_mul_c {a b c : Int} (h : a * c < b * c) (hc : 0 < c) : a < b := Int.lt_of_mul_lt_mul_right h (Int.le_of_lt hc)
theorem eq_mul_c {a b c : Int} (h : a * c = b * c) (hc : 0 < c) : a = b := Int.eq_of_mul_eq_mul_right (by omega) h
theorem r3 (a b c : Int) : a * b * c = a * c * b := by grind
theorem lt3_tri (x y d x' y' d' : Int) : lt3 x y d x' y' d' ∨ eq3 x y d x' y' d' ∨ lt3 x' y' d' x y d := by
  unfold lt3 eq3
  omega
theorem lt3_irr {x y d x' y' d' : Int} (h : lt3 x y d x' y' d') (e : eq3 x y d x' y' d') : False := by
  unfold lt3 eq3 at *
  omega
theorem lt3_asy {x y d x' y' d' : Int} (h : lt3 x y d x' y' d') (e : lt3 x' y' d' x y d) : False := by
  unfold lt3 at *
  omega
theorem lt3_tr {x y d x' y' d' x'' y'' d'' : Int} (hd : 0 < d) (hd' : 0 < d') (hd'' : 0 < d'') (h : lt3 x y d x' y' d') (g : lt3 x' y' d' x'' y'' d'') : lt3 x y d x'' y'' d'' := by
  unfold lt3 at *
  have a1 := r3 x d'' d'
  have a2 := r3 x' d d''
  have a3 := r3 x'' d' d
  have b1 := r3 y d'' d'
  have b2 := r3 y' d d''
  have b3 := r3 y'' d' d
  rcases h with h | ⟨h, h2⟩ <;> rcases g with g | ⟨g, g2⟩
  · left
    have e1 := mul_lt_c h hd''
    have e2 := mul_lt_c g hd
    apply lt_mul_c (c := d') _ hd'
    omega
  · left
    have e1 := mul_lt_c h hd''
    have e2 : x' * d'' * d = x'' * d' * d := by rw [g]
    apply lt_mul_c (c := d') _ hd'
    omega
  · left
    have e1 : x * d' * d'' = x' * d * d'' := by rw [h]
    have e2 := mul_lt_c g hd
    apply lt_mul_c (c := d') _ hd'
    omega
  · right
    constructor
    · have e1 : x * d' * d'' = x' * d * d'' := by rw [h]
      have e2 : x' * d'' * d = x'' * d' * d := by rw [g]
      apply eq_mul_c (c := d') _ hd'
      omega
    · have e1 := mul_lt_c h2 hd''
      have e2 := mul_lt_c g2 hd
      apply lt_mul_c (c := d') _ hd'
      omega
theorem dvd_of_red {x y d x' y' d' : Int} (h : red3 x y d) (h' : red3 x' y' d') (e : eq3 x y d x' y' d') : d.natAbs ∣ d'.natAbs := by
  obtain ⟨e1, e2⟩ := e
  have g1 : d.natAbs ∣ (x * d').natAbs := by rw [e1, Int.natAbs_mul]; exact Nat.dvd_mul_left _ _
  have g2 : d.natAbs ∣ (y * d').natAbs := by rw [e2, Int.natAbs_mul]; exact Nat.dvd_mul_left _ _
  have g3 : d.natAbs ∣ (d * d').natAbs := by rw [Int.natAbs_mul]; exact Nat.dvd_mul_right _ _
  rw [Int.natAbs_mul] at g1 g2 g3
  have g4 : d.natAbs ∣ Nat.gcd (Nat.gcd (x.natAbs * d'.natAbs) (y.natAbs * d'.natAbs)) (d.natAbs * d'.natAbs) := Nat.dvd_gcd (Nat.dvd_gcd g1 g2) g3
  rw [Nat.gcd_mul_right, Nat.gcd_mul_right] at g4
  have g5 : Nat.gcd (Nat.gcd x.natAbs y.natAbs) d.natAbs = 1 := h.2
  rwa [g5, Nat.one_mul] at g4
theorem red_eq {x y d x' y' d' : Int} (h : red3 x y d) (h' : red3 x' y' d') (e : eq3 x y d x' y' d') : x = x' ∧ y = y' ∧ d = d' := by
  have h1 := dvd_of_red h h' e
  have h2 := dvd_of_red h' h ⟨e.1.symm, e.2.symm⟩
  have h3 := Nat.dvd_antisymm h1 h2
  have hd : d = d' := by have := h.1; have := h'.1; omega
  subst hd
  exact ⟨eq_mul_c e.1 h.1, eq_mul_c e.2 h.1, rfl⟩
/-- what crosses where: lines a and b do, at that point -/
def At (n : Nat) (A B C : Nat → Int) (a b : Nat) (x y d : Int) : Prop := a < n ∧ b < n ∧ cr A B a b ≠ 0 ∧ ht A B C a x y d = 0 ∧ ht A B C b x y d = 0
/-- the row of all crossings of the pairs in Q -/
def RowQ (Q : Nat → Nat → Prop) (n : Nat) (A B C : Nat → Int) (k : Nat) (X Y D : Nat → Int) : Prop :=
  (∀ j, j < k → red3 (X j) (Y j) (D j) ∧ (∃ a b, Q a b ∧ At n A B C a b (X j) (Y j) (D j))) ∧
  (∀ i j, i < j → j < k → lt3 (X i) (Y i) (D i) (X j) (Y j) (D j)) ∧
  (∀ a b, Q a b → a < n → b < n → cr A B a b ≠ 0 → ∃ j, j < k ∧ At n A B C a b (X j) (Y j) (D j))
theorem at_on {A B C : Nat → Int} {a b : Nat} {x y d : Int} (h1 : ht A B C a x y d = 0) (h2 : ht A B C b x y d = 0) : cr A B a b * x = cr C B a b * d ∧ cr A B a b * y = cr A C a b * d := by
  unfold ht at h1 h2
  unfold cr
  constructor
  · grind
  · grind
theorem at_sym {n : Nat} {A B C : Nat → Int} {a b : Nat} {x y d : Int} (h : At n A B C a b x y d) : At n A B C b a x y d := by
  obtain ⟨h1, h2, h3, h4, h5⟩ := h
  refine ⟨h2, h1, ?_, h5, h4⟩
  unfold cr at *
  intro e
  apply h3
  have := Int.mul_comm (A a) (B b)
  have := Int.mul_comm (A b) (B a)
  omega
theorem cmul {c a b : Int} (hc : c ≠ 0) (h : c * a = c * b) : a = b := Int.eq_of_mul_eq_mul_left hc h
theorem at_eq3 {n : Nat} {A B C : Nat → Int} {a b : Nat} {x y d x' y' d' : Int} (h : At n A B C a b x y d) (h' : At n A B C a b x' y' d') : eq3 x y d x' y' d' := by
  obtain ⟨e1, e2⟩ := at_on h.2.2.2.1 h.2.2.2.2
  obtain ⟨f1, f2⟩ := at_on h'.2.2.2.1 h'.2.2.2.2
  constructor
  · apply cmul h.2.2.1
    rw [← Int.mul_assoc, ← Int.mul_assoc, e1, f1]
    exact r3 _ _ _
  · apply cmul h.2.2.1
    rw [← Int.mul_assoc, ← Int.mul_assoc, e2, f2]
    exact r3 _ _ _
theorem mono_ge {k k' : Nat} {φ : Nat → Nat} (hm : ∀ i j, i < j → j < k → φ i < φ j) : ∀ j, j < k → j ≤ φ j := by
  intro j
  induction j with
  | zero => intro _; exact Nat.zero_le _
  | succ j ih =>
    intro h
    have h1 := ih (by omega)
    have h2 := hm j (j + 1) (by omega) h
    omega
theorem RowQ_map {Q : Nat → Nat → Prop} {n : Nat} {A B C : Nat → Int} {k k' : Nat} {X Y D X' Y' D' : Nat → Int} (h : RowQ Q n A B C k X Y D) (h' : RowQ Q n A B C k' X' Y' D') : ∀ j, j < k → ∃ j', j' < k' ∧ X j = X' j' ∧ Y j = Y' j' ∧ D j = D' j' := by
  intro j hj
  obtain ⟨hr, a, b, hq, hat⟩ := h.1 j hj
  obtain ⟨j', hj', hat'⟩ := h'.2.2 a b hq hat.1 hat.2.1 hat.2.2.1
  exact ⟨j', hj', red_eq hr (h'.1 j' hj').1 (at_eq3 hat hat')⟩
theorem RowQ_uniq {Q : Nat → Nat → Prop} {n : Nat} {A B C : Nat → Int} {k k' : Nat} {X Y D X' Y' D' : Nat → Int} (h : RowQ Q n A B C k X Y D) (h' : RowQ Q n A B C k' X' Y' D') : k = k' ∧ ∀ j, j < k → X j = X' j ∧ Y j = Y' j ∧ D j = D' j := by
  have step : ∀ {k k' : Nat} {X Y D X' Y' D' : Nat → Int}, RowQ Q n A B C k X Y D → RowQ Q n A B C k' X' Y' D' → ∃ φ : Nat → Nat, (∀ j, j < k → φ j < k' ∧ X j = X' (φ j) ∧ Y j = Y' (φ j) ∧ D j = D' (φ j)) ∧ (∀ i j, i < j → j < k → φ i < φ j) := by
    intro k k' X Y D X' Y' D' h h'
    have hm := RowQ_map h h'
    have hex : ∃ φ : Nat → Nat, ∀ j, j < k → φ j < k' ∧ X j = X' (φ j) ∧ Y j = Y' (φ j) ∧ D j = D' (φ j) := by
      refine ⟨fun j => if hj : j < k then Classical.choose (hm j hj) else 0, ?_⟩
      intro j hj
      simp only [dif_pos hj]
      exact Classical.choose_spec (hm j hj)
    obtain ⟨φ, hφ⟩ := hex
    refine ⟨φ, hφ, ?_⟩
    intro i j hij hj
    obtain ⟨a1, a2, a3, a4⟩ := hφ j hj
    obtain ⟨b1, b2, b3, b4⟩ := hφ i (by omega)
    have hlt := h.2.1 i j hij hj
    rw [a2, a3, a4, b2, b3, b4] at hlt
    rcases Nat.lt_trichotomy (φ i) (φ j) with c | c | c
    · exact c
    · rw [c] at hlt
      exact absurd hlt (fun z => lt3_irr z ⟨rfl, rfl⟩)
    · exact absurd (h'.2.1 _ _ c b1) (fun z => lt3_asy hlt z)
  obtain ⟨φ, p1, p2⟩ := step h h'
  obtain ⟨ψ, q1, q2⟩ := step h' h
  have g1 := mono_ge (k' := 0) p2
  have g2 := mono_ge (k' := 0) q2
  have hk : k = k' := by
    rcases Nat.lt_trichotomy k k' with c | c | c
    · have := g2 (k' - 1) (by omega)
      have := (q1 (k' - 1) (by omega)).1
      omega
    · exact c
    · have := g1 (k - 1) (by omega)
      have := (p1 (k - 1) (by omega)).1
      omega
  subst hk
  refine ⟨rfl, fun j hj => ?_⟩
  obtain ⟨a1, a2, a3, a4⟩ := p1 j hj
  have : φ j = j := by
    rcases Nat.lt_or_ge j (φ j) with c | c
    · exfalso
      have hm2 : ∀ m, j + m < k → j + m + 1 ≤ φ (j + m) := by
        intro m
        induction m with
        | zero => intro _; show j + 0 + 1 ≤ φ j; omega
        | succ m ih =>
          intro hm
          have := ih (by omega)
          have := p2 (j + m) (j + (m + 1)) (by omega) hm
          omega
      have h1 := hm2 (k - 1 - j) (by omega)
      rw [show j + (k - 1 - j) = k - 1 by omega] at h1
      have := (p1 (k - 1) (by omega)).1
      omega
    · have := g1 j hj; omega
  rw [this] at a2 a3 a4
  exact ⟨a2, a3, a4⟩
/-- a new one at place p -/
def insF {α : Type} (p : Nat) (x : α) (f : Nat → α) (j : Nat) : α := if j < p then f j else if j = p then x else f (j - 1)
theorem insF_lt {p j : Nat} {α : Type} {x : α} {f : Nat → α} (h : j < p) : insF p x f j = f j := by unfold insF; rw [if_pos h]
theorem insF_eq {p : Nat} {α : Type} {x : α} {f : Nat → α} : insF p x f p = x := by unfold insF; rw [if_neg (by omega), if_pos rfl]
theorem insF_gt {p j : Nat} {α : Type} {x : α} {f : Nat → α} (h : p < j) : insF p x f j = f (j - 1) := by unfold insF; rw [if_neg (by omega), if_neg (by omega)]
def addQ (Q : Nat → Nat → Prop) (a b : Nat) (a' b' : Nat) : Prop := Q a' b' ∨ (a' = a ∧ b' = b)
/-- the point is there -/
theorem RowQ_there {Q : Nat → Nat → Prop} {n : Nat} {A B C : Nat → Int} {k : Nat} {X Y D : Nat → Int} (h : RowQ Q n A B C k X Y D) {a b p : Nat} (hp : p < k) (hat : At n A B C a b (X p) (Y p) (D p)) : RowQ (addQ Q a b) n A B C k X Y D := by
  refine ⟨fun j hj => ?_, h.2.1, fun a' b' hq h1 h2 h3 => ?_⟩
  · obtain ⟨hr, a', b', hq, ha⟩ := h.1 j hj
    exact ⟨hr, a', b', Or.inl hq, ha⟩
  · rcases hq with hq | ⟨rfl, rfl⟩
    · exact h.2.2 a' b' hq h1 h2 h3
    · exact ⟨p, hp, hat⟩
/-- no crossing -/
theorem RowQ_par {Q : Nat → Nat → Prop} {n : Nat} {A B C : Nat → Int} {k : Nat} {X Y D : Nat → Int} (h : RowQ Q n A B C k X Y D) {a b : Nat} (h0 : cr A B a b = 0) : RowQ (addQ Q a b) n A B C k X Y D := by
  refine ⟨fun j hj => ?_, h.2.1, fun a' b' hq h1 h2 h3 => ?_⟩
  · obtain ⟨hr, a', b', hq, ha⟩ := h.1 j hj
    exact ⟨hr, a', b', Or.inl hq, ha⟩
  · rcases hq with hq | ⟨rfl, rfl⟩
    · exact h.2.2 a' b' hq h1 h2 h3
    · exact absurd h0 h3
theorem RowQ_ins {Q : Nat → Nat → Prop} {n : Nat} {A B C : Nat → Int} {k : Nat} {X Y D : Nat → Int} (h : RowQ Q n A B C k X Y D) {a b p : Nat} {x y d : Int} (hp : p ≤ k) (hr : red3 x y d) (hat : At n A B C a b x y d) (hlo : ∀ j, j < p → lt3 (X j) (Y j) (D j) x y d) (hhi : ∀ j, p ≤ j → j < k → lt3 x y d (X j) (Y j) (D j)) : RowQ (addQ Q a b) n A B C (k + 1) (insF p x X) (insF p y Y) (insF p d D) := by
  refine ⟨fun j hj => ?_, fun i j hij hj => ?_, fun a' b' hq h1 h2 h3 => ?_⟩
  · rcases Nat.lt_trichotomy j p with c | c | c
    · rw [insF_lt c, insF_lt c, insF_lt c]
      obtain ⟨hr, a', b', hq, ha⟩ := h.1 j (by omega)
      exact ⟨hr, a', b', Or.inl hq, ha⟩
    · subst c
      rw [insF_eq, insF_eq, insF_eq]
      exact ⟨hr, a, b, Or.inr ⟨rfl, rfl⟩, hat⟩
    · rw [insF_gt c, insF_gt c, insF_gt c]
      obtain ⟨hr, a', b', hq, ha⟩ := h.1 (j - 1) (by omega)
      exact ⟨hr, a', b', Or.inl hq, ha⟩
  · rcases Nat.lt_trichotomy i p with c | c | c
    · rw [insF_lt c, insF_lt c, insF_lt c]
      rcases Nat.lt_trichotomy j p with e | e | e
      · rw [insF_lt e, insF_lt e, insF_lt e]
        exact h.2.1 i j hij (by omega)
      · subst e
        rw [insF_eq, insF_eq, insF_eq]
        exact hlo i c
      · rw [insF_gt e, insF_gt e, insF_gt e]
        exact h.2.1 i (j - 1) (by omega) (by omega)
    · subst c
      rw [insF_eq, insF_eq, insF_eq, insF_gt hij, insF_gt hij, insF_gt hij]
      exact hhi (j - 1) (by omega) (by omega)
    · rw [insF_gt c, insF_gt c, insF_gt c, insF_gt (show p < j by omega), insF_gt (show p < j by omega), insF_gt (show p < j by omega)]
      exact h.2.1 (i - 1) (j - 1) (by omega) (by omega)
  · rcases hq with hq | ⟨rfl, rfl⟩
    · obtain ⟨j, hj, ha⟩ := h.2.2 a' b' hq h1 h2 h3
      by_cases c : j < p
      · exact ⟨j, by omega, by rw [insF_lt c, insF_lt c, insF_lt c]; exact ha⟩
      · exact ⟨j + 1, by omega, by rw [insF_gt (show p < j + 1 by omega), insF_gt (show p < j + 1 by omega), insF_gt (show p < j + 1 by omega)]; exact ha⟩
    · exact ⟨p, by omega, by rw [insF_eq, insF_eq, insF_eq]; exact hat⟩
/-- the place of a point -/
theorem RowQ_place {Q : Nat → Nat → Prop} {n : Nat} {A B C : Nat → Int} {k : Nat} {X Y D : Nat → Int} (h : RowQ Q n A B C k X Y D) {x y d : Int} (hd : 0 < d) {p : Nat} (hp : p ≤ k) (hlo : ∀ j, j < p → lt3 (X j) (Y j) (D j) x y d) (hnp : p < k → ¬ lt3 (X p) (Y p) (D p) x y d) :
    (∀ j, p < j → j < k → lt3 x y d (X j) (Y j) (D j)) := by
  intro j hpj hj
  have h1 := h.2.1 p j hpj hj
  have d1 := (h.1 p (by omega)).1.1
  have d2 := (h.1 j hj).1.1
  rcases lt3_tri (X p) (Y p) (D p) x y d with c | c | c
  · exact absurd c (hnp (by omega))
  · rcases lt3_tri x y d (X j) (Y j) (D j) with e | e | e
    · exact e
    · exfalso
      unfold lt3 at h1
      unfold eq3 at c e
      have a1 := r3 (X p) d (D j)
      have a2 := r3 x (D p) (D j)
      have a3 := r3 (X j) d (D p)
      have b1 := r3 (Y p) d (D j)
      have b2 := r3 y (D p) (D j)
      have b3 := r3 (Y j) d (D p)
      have c1 : X p * d * D j = x * D p * D j := by rw [c.1]
      have c2 : x * D j * D p = X j * d * D p := by rw [e.1]
      have c3 : Y p * d * D j = y * D p * D j := by rw [c.2]
      have c4 : y * D j * D p = Y j * d * D p := by rw [e.2]
      rcases h1 with h1 | ⟨_, h1⟩
      · have := mul_lt_c h1 hd; omega
      · have := mul_lt_c h1 hd; omega
    · have h2 := lt3_tr d1 d2 hd h1 e
      exact absurd c (fun z => lt3_irr h2 z)
  · exact lt3_tr hd d1 d2 c h1
end ROW

