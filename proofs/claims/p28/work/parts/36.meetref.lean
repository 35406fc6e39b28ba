/-! ===== the reference's row of MEETS ===== -/
section MREF
theorem iI_div' {a b : Int} (ha : a.natAbs ≤ 2147483647) (hb : sm b) : iI a / iI b = iI (a.tdiv b) := by
  apply Int32.toInt_inj.mp
  have hs : sm a := by unfold sm; omega
  have hm : iI a ≠ Int32.minValue := by
    intro e
    have : (iI a).toInt = Int32.minValue.toInt := by rw [e]
    rw [iI_toInt hs, show Int32.minValue.toInt = -2147483648 from by decide] at this
    omega
  have h1 : (a.tdiv b).natAbs ≤ a.natAbs := by rw [Int.natAbs_tdiv]; exact Nat.div_le_self _ _
  have h2 : sm (a.tdiv b) := by unfold sm; omega
  rw [Int32.toInt_div_of_ne_left _ _ hm, iI_toInt hs, iI_toInt hb, iI_toInt h2]
theorem cr_bd {n : Nat} {A B C : Nat → Int} (hR : LR n A B C) {i j : Nat} (hi : i < n) (hj : j < n) : (cr A B i j).natAbs ≤ 162 ∧ (cr C B i j).natAbs ≤ 162 ∧ (cr A C i j).natAbs ≤ 162 := by
  obtain ⟨a1, a2, a3, -⟩ := hR.2 i hi
  obtain ⟨b1, b2, b3, -⟩ := hR.2 j hj
  unfold cr
  have := mb a1 b2; have := mb b1 a2; have := mb a3 b2; have := mb b3 a2; have := mb a1 b3; have := mb b1 a3
  omega
def sgn1 (z : Int) : Int := if z < 0 then -1 else 1
theorem sgn1_sq (z : Int) : sgn1 z * sgn1 z = 1 := by unfold sgn1; split <;> rfl
theorem sgn1_sg {z : Int} (h : z ≠ 0) : sg z = sgn1 z := by unfold sgn1 sg; (repeat' split) <;> omega
theorem sgn1_abs (z : Int) : z = sgn1 z * z.natAbs := by unfold sgn1; split <;> omega
theorem cr_on2 (A B C : Nat → Int) (i j : Nat) : A j * cr C B i j + B j * cr A C i j - C j * cr A B i j = 0 := by
  unfold cr
  grind
theorem scale {a b c x y d X Y D g s : Int} (hs : s * s = 1) (hx : X = g * (s * x)) (hy : Y = g * (s * y)) (hd : D = g * (s * d)) (h : a * X + b * Y - c * D = 0) : g * (a * x + b * y - c * d) = 0 := by
  subst hx hy hd
  have e : a * (g * (s * x)) + b * (g * (s * y)) - c * (g * (s * d)) = s * (g * (a * x + b * y - c * d)) := by grind
  rw [e] at h
  rcases Int.mul_eq_zero.mp h with z | z
  · subst z; simp at hs
  · exact z
/-- the crossing of two lines, told by least numbers -/
theorem red_ex {n : Nat} {A B C : Nat → Int} (hR : LR n A B C) {i j : Nat} (hi : i < n) (hj : j < n) (h0 : cr A B i j ≠ 0) :
    ∃ x y d : Int, ∃ g : Nat, g = Int.gcd (Int.gcd (cr C B i j) (cr A C i j)) (cr A B i j) ∧ 0 < g ∧ g ≤ 162 ∧ red3 x y d ∧ At n A B C i j x y d ∧ cr C B i j = (g : Int) * (sgn1 (cr A B i j) * x) ∧ cr A C i j = (g : Int) * (sgn1 (cr A B i j) * y) ∧ cr A B i j = (g : Int) * (sgn1 (cr A B i j) * d) ∧ x.natAbs ≤ 162 ∧ y.natAbs ≤ 162 ∧ d.natAbs ≤ 162 := by
  obtain ⟨c1, c2, c3⟩ := cr_bd hR hi hj
  obtain ⟨s, hs⟩ : ∃ s, s = sgn1 (cr A B i j) := ⟨_, rfl⟩
  obtain ⟨P, hP⟩ : ∃ P, P = cr C B i j := ⟨_, rfl⟩
  obtain ⟨Q, hQ⟩ : ∃ P, P = cr A C i j := ⟨_, rfl⟩
  obtain ⟨W, hW⟩ : ∃ P, P = cr A B i j := ⟨_, rfl⟩
  have o1 := cr_on A B C i j
  have o2 := cr_on2 A B C i j
  have hat : ∀ x y d : Int, ht A B C i x y d = 0 → ht A B C j x y d = 0 → At n A B C i j x y d := fun x y d a b => ⟨hi, hj, h0, a, b⟩
  have hss : s * s = 1 := by rw [hs]; exact sgn1_sq _
  have hsW : W = s * W.natAbs := by rw [hs, ← hW]; exact sgn1_abs W
  rw [← hs]
  rw [← hP, ← hQ, ← hW]
  rw [← hP, ← hQ, ← hW] at o1 o2
  rw [← hW] at c1 h0
  rw [← hP] at c2
  rw [← hQ] at c3
  obtain ⟨g, hg⟩ : ∃ g, g = Int.gcd (Int.gcd P Q) W := ⟨_, rfl⟩
  have g1 : (g : Int) ∣ W := by rw [hg]; exact Int.gcd_dvd_right _ _
  have g2 : (g : Int) ∣ (Int.gcd P Q : Int) := by rw [hg]; exact Int.gcd_dvd_left _ _
  have g3 : (g : Int) ∣ P := Int.dvd_trans g2 (Int.gcd_dvd_left _ _)
  have g4 : (g : Int) ∣ Q := Int.dvd_trans g2 (Int.gcd_dvd_right _ _)
  obtain ⟨x0, hx0⟩ := g3
  obtain ⟨y0, hy0⟩ := g4
  obtain ⟨d0, hd0⟩ := g1
  have hgpos : 0 < g := by
    rcases Nat.eq_zero_or_pos g with z | z
    · rw [z] at hd0; simp at hd0; exact absurd hd0 h0
    · exact z
  have hd0n : d0 ≠ 0 := by
    intro z
    rw [z] at hd0
    simp at hd0
    exact h0 hd0
  have s1 : s = 1 ∨ s = -1 := by rw [hs]; unfold sgn1; split <;> simp
  have hab : ∀ {u v : Int}, u = (g : Int) * v → u.natAbs = g * v.natAbs := by
    intro u v h
    rw [h, Int.natAbs_mul]
    rfl
  have hle : ∀ {u v : Int}, u = (g : Int) * v → u.natAbs ≤ 162 → v.natAbs ≤ 162 := by
    intro u v h h2
    rw [hab h] at h2
    exact Nat.le_trans (Nat.le_mul_of_pos_left _ hgpos) h2
  have hsab : ∀ v : Int, (s * v).natAbs = v.natAbs := by
    intro v
    rcases s1 with z | z <;> rw [z] <;> omega
  have hsx : ∀ v : Int, s * (s * v) = v := by intro v; rw [← Int.mul_assoc, hss, Int.one_mul]
  have hpos : 0 < s * d0 := by
    have e1 : W.natAbs = g * d0.natAbs := hab hd0
    have e2 : (g : Int) * d0 = s * ((g : Int) * d0.natAbs) := by
      rw [← hd0]
      rw [hsW] at hd0
      rw [hsW, e1]
      simp
    have e3 : (g : Int) * (s * d0) = (g : Int) * d0.natAbs := by
      have := hsx ((g : Int) * d0.natAbs)
      rw [← e2] at this
      rw [← this]
      exact Int.mul_left_comm _ _ _
    have e4 := cmul (c := (g : Int)) (by omega) e3
    omega
  refine ⟨s * x0, s * y0, s * d0, g, hg, hgpos, ?_, ⟨hpos, ?_⟩, ?_, by rw [hsx]; exact hx0, by rw [hsx]; exact hy0, by rw [hsx]; exact hd0, by rw [hsab]; exact hle hx0 c2, by rw [hsab]; exact hle hy0 c3, by rw [hsab]; exact hle hd0 c1⟩
  · have := hab hd0
    have h3 : 1 ≤ d0.natAbs := by omega
    have := Nat.le_mul_of_pos_right g h3
    omega
  · have e1 := hab hx0
    have e2 := hab hy0
    have e3 := hab hd0
    have e4 : g = Nat.gcd (Nat.gcd P.natAbs Q.natAbs) W.natAbs := hg
    rw [e1, e2, e3, Nat.gcd_mul_left, Nat.gcd_mul_left] at e4
    show Nat.gcd (Nat.gcd (s * x0).natAbs (s * y0).natAbs) (s * d0).natAbs = 1
    rw [hsab, hsab, hsab]
    have e5 : g * 1 = g * Nat.gcd (Nat.gcd x0.natAbs y0.natAbs) d0.natAbs := by rw [Nat.mul_one]; exact e4
    exact (Nat.eq_of_mul_eq_mul_left hgpos e5).symm
  · apply hat
    · have := scale (s := s) (g := (g : Int)) (x := s * x0) (y := s * y0) (d := s * d0) hss (by rw [hsx]; exact hx0) (by rw [hsx]; exact hy0) (by rw [hsx]; exact hd0) o1
      rcases Int.mul_eq_zero.mp this with z | z
      · omega
      · exact z
    · have := scale (s := s) (g := (g : Int)) (x := s * x0) (y := s * y0) (d := s * d0) hss (by rw [hsx]; exact hx0) (by rw [hsx]; exact hy0) (by rw [hsx]; exact hd0) o2
      rcases Int.mul_eq_zero.mp this with z | z
      · omega
      · exact z
theorem at_bd {n : Nat} {A B C : Nat → Int} (hR : LR n A B C) {i j : Nat} {x y d : Int} (hr : red3 x y d) (h : At n A B C i j x y d) : x.natAbs ≤ 162 ∧ y.natAbs ≤ 162 ∧ d.natAbs ≤ 162 := by
  obtain ⟨x', y', d', g, -, -, -, hr', h', -, -, -, b1, b2, b3⟩ := red_ex hR h.1 h.2.1 h.2.2.1
  obtain ⟨e1, e2, e3⟩ := red_eq hr hr' (at_eq3 h h')
  rw [e1, e2, e3]
  exact ⟨b1, b2, b3⟩
theorem RowQ_bd {Q : Nat → Nat → Prop} {n : Nat} {A B C : Nat → Int} {k : Nat} {X Y D : Nat → Int} (h : RowQ Q n A B C k X Y D) (hR : LR n A B C) {j : Nat} (hj : j < k) : (X j).natAbs ≤ 162 ∧ (Y j).natAbs ≤ 162 ∧ (D j).natAbs ≤ 162 ∧ 0 < D j := by
  obtain ⟨hr, a, b, -, hat⟩ := h.1 j hj
  obtain ⟨b1, b2, b3⟩ := at_bd hR hr hat
  exact ⟨b1, b2, b3, hr.1⟩
/-- the sign by which a point is compared -/
def ordv (x y d x' y' d' : Int) : Int := if x * d' - x' * d = 0 then y * d' - y' * d else x * d' - x' * d
theorem ordv_lt {x y d x' y' d' : Int} : ordv x y d x' y' d' < 0 ↔ lt3 x y d x' y' d' := by unfold ordv lt3; split <;> omega
theorem ordv_eq {x y d x' y' d' : Int} : ordv x y d x' y' d' = 0 ↔ eq3 x y d x' y' d' := by unfold ordv eq3; split <;> omega
/-- a row's cells behind a place, one further -/
def shA (t k : Nat) (f : Nat → Int32) (j : Nat) : Int32 := if t < j ∧ j ≤ k then f (j - 1) else f j
theorem shA_0 (k : Nat) (f : Nat → Int32) : shA k k f = f := by
  funext j
  unfold shA
  rw [if_neg (by omega)]
theorem shA_s {t k : Nat} {f : Nat → Int32} (h : t + 1 ≤ k) : upd (shA (t + 1) k f) (t + 1) (f t) = shA t k f := by
  funext j
  by_cases e : j = t + 1
  · subst e
    rw [up_s]
    unfold shA
    rw [if_pos (by omega)]
    rfl
  · rw [up_n e]
    unfold shA
    by_cases c : t + 1 < j ∧ j ≤ k
    · rw [if_pos c, if_pos (by omega)]
    · rw [if_neg c, if_neg (by omega)]
theorem shA_r {t k : Nat} {f : Nat → Int32} : shA (t + 1) k f t = f t := by
  unfold shA
  rw [if_neg (by omega)]
theorem nI_pm (t : Nat) : nI (t + 1) + (-1) = nI t := by
  rw [← nI_1]
  have : (1 : Int32) + (-1) = 0 := by decide
  rw [Int32.add_assoc, this, Int32.add_zero]
theorem nI_sm (t : Nat) : nI (t + 1) - 1 = nI t := nI_m1 (t + 1) (by omega)
def Rp (k : Nat) (X Y D : Nat → Int) (x y d : Nat → Int32) : Prop := ∀ j, j < k → x j = iI (X j) ∧ y j = iI (Y j) ∧ d j = iI (D j)
theorem Rp_ins {k p : Nat} {X : Nat → Int} {x : Nat → Int32} {v : Int} (h : ∀ j, j < k → x j = iI (X j)) (hp : p ≤ k) : ∀ j, j < k + 1 → upd (shA p k x) p (iI v) j = iI (insF p v X j) := by
  intro j hj
  rcases Nat.lt_trichotomy j p with c | c | c
  · rw [up_n (by omega), insF_lt c, ← h j (by omega)]
    unfold shA
    rw [if_neg (by omega)]
  · subst c
    rw [up_s, insF_eq]
  · rw [up_n (by omega), insF_gt c, ← h (j - 1) (by omega)]
    unfold shA
    rw [if_pos (by omega)]
theorem bit_and (a b : Bool) : b01 a &&& b01 b = b01 (a && b) := by cases a <;> cases b <;> decide
variable {Q : Nat → Nat → Prop} {n : Nat} {A B C : Nat → Int} {k : Nat} {X Y D : Nat → Int} {x' y' d' : Nat → Int32} {N : Nat}
end MREF

