/-! ===== the plane: true from some number on; a way from one point to another that misses all MEETS ===== -/
section GE
def Ev (P : Nat → Prop) : Prop := ∃ T0, ∀ T, T0 ≤ T → P T
theorem Ev.and {P Q : Nat → Prop} (h1 : Ev P) (h2 : Ev Q) : Ev (fun T => P T ∧ Q T) := by
  obtain ⟨a, ha⟩ := h1
  obtain ⟨b, hb⟩ := h2
  exact ⟨max a b, fun T h => ⟨ha T (by omega), hb T (by omega)⟩⟩
theorem Ev.mono {P Q : Nat → Prop} (h : Ev P) (f : ∀ T, P T → Q T) : Ev Q := by
  obtain ⟨a, ha⟩ := h
  exact ⟨a, fun T h => f T (ha T h)⟩
theorem Ev.tr {P : Nat → Prop} (f : ∀ T, P T) : Ev P := ⟨0, fun T _ => f T⟩
theorem Ev.all {P : Nat → Nat → Prop} : ∀ (n : Nat), (∀ j, j < n → Ev (P j)) → Ev (fun T => ∀ j, j < n → P j T)
  | 0, _ => ⟨0, fun _ _ j h => absurd h (Nat.not_lt_zero j)⟩
  | n + 1, h => by
    obtain ⟨a, ha⟩ := Ev.all n (fun j hj => h j (by omega))
    obtain ⟨b, hb⟩ := h n (by omega)
    refine ⟨max a b, fun T hT j hj => ?_⟩
    by_cases e : j = n
    · subst e; exact hb T (by omega)
    · exact ha T (by omega) j (by omega)
theorem Ev.ex {P : Nat → Prop} (h : Ev P) : ∃ T, 0 < T ∧ P T := by
  obtain ⟨a, ha⟩ := h
  exact ⟨a + 1, by omega, ha (a + 1) (by omega)⟩
theorem le_mul1 {a z : Int} (h : 1 ≤ a) (hz : 0 ≤ z) : z ≤ a * z := by
  have := Int.mul_le_mul_of_nonneg_right h hz
  rwa [Int.one_mul] at this
theorem ev_quad_pos {α β γ : Int} (h : 0 < α ∨ (α = 0 ∧ 0 < β) ∨ (α = 0 ∧ β = 0 ∧ 0 < γ)) : Ev (fun T => 0 < α * ((T : Int) * T) + β * T + γ) := by
  refine ⟨β.natAbs + γ.natAbs + 1, fun T hT => ?_⟩
  have ha : (β.natAbs : Int) + γ.natAbs + 1 ≤ (T : Int) := by omega
  show 0 < α * ((T : Int) * T) + β * T + γ
  generalize (T : Int) = a at ha ⊢
  have a0 : 0 ≤ a := by omega
  have e1 : (γ.natAbs : Int) ≤ γ.natAbs * a := by
    have := le_mul1 (a := a) (z := (γ.natAbs : Int)) (by omega) (by omega)
    rwa [Int.mul_comm] at this
  have e2 : -((β.natAbs : Int) * a) ≤ β * a := by
    have := Int.mul_le_mul_of_nonneg_right (show -(β.natAbs : Int) ≤ β by omega) a0
    rwa [Int.neg_mul] at this
  rcases h with h | ⟨h1, h⟩ | ⟨h1, h2, h⟩
  · have e3 : a * a ≤ α * (a * a) := le_mul1 (by omega) (Int.mul_nonneg a0 a0)
    have e4 : ((β.natAbs : Int) + γ.natAbs + 1) * a ≤ a * a := Int.mul_le_mul_of_nonneg_right ha a0
    rw [Int.add_mul, Int.add_mul, Int.one_mul] at e4
    omega
  · subst h1
    have e3 : a ≤ β * a := le_mul1 (by omega) a0
    omega
  · subst h1; subst h2
    omega
theorem ev_quad_neg {α β γ : Int} (h : α < 0 ∨ (α = 0 ∧ β < 0) ∨ (α = 0 ∧ β = 0 ∧ γ < 0)) : Ev (fun T => α * ((T : Int) * T) + β * T + γ < 0) := by
  refine (ev_quad_pos (α := -α) (β := -β) (γ := -γ) (by omega)).mono (fun T hT => ?_)
  rw [Int.neg_mul, Int.neg_mul] at hT
  omega
theorem ev_quad_ne {α β γ : Int} (h : ¬ (α = 0 ∧ β = 0 ∧ γ = 0)) : Ev (fun T => α * ((T : Int) * T) + β * T + γ ≠ 0) := by
  by_cases c : 0 < α ∨ (α = 0 ∧ 0 < β) ∨ (α = 0 ∧ β = 0 ∧ 0 < γ)
  · exact (ev_quad_pos c).mono (fun T hT => by omega)
  · exact (ev_quad_neg (α := α) (β := β) (γ := γ) (by omega)).mono (fun T hT => by omega)
/-- the same sign -/
theorem ev_sign {α β γ h : Int} (hh : h ≠ 0) (e : α = h * h) : Ev (fun T => 0 < α * ((T : Int) * T) + β * T + γ) := by
  refine ev_quad_pos (Or.inl ?_)
  rw [e]
  rcases Int.lt_trichotomy h 0 with g | g | g
  · exact Int.mul_pos_of_neg_of_neg g g
  · exact absurd g hh
  · exact Int.mul_pos g g
theorem ex_min {R : Nat → Nat → Prop} {P : Nat → Prop} (tot : ∀ i j, R i j ∨ R j i) (tra : ∀ i j k, P i → P j → P k → R i j → R j k → R i k) : ∀ n, (∃ j, j < n ∧ P j) → ∃ k, k < n ∧ P k ∧ ∀ j, j < n → P j → R k j := by
  intro n
  induction n with
  | zero => rintro ⟨j, h, -⟩; omega
  | succ n ih =>
    intro hex
    by_cases c : ∃ j, j < n ∧ P j
    · obtain ⟨k, hk, hp, hm⟩ := ih c
      by_cases cn : P n
      · rcases tot k n with h | h
        · refine ⟨k, by omega, hp, fun j hj pj => ?_⟩
          by_cases e : j = n
          · subst e; exact h
          · exact hm j (by omega) pj
        · refine ⟨n, by omega, cn, fun j hj pj => ?_⟩
          by_cases e : j = n
          · subst e; rcases tot j j with h | h <;> exact h
          · exact tra n k j cn hp pj h (hm j (by omega) pj)
      · refine ⟨k, by omega, hp, fun j hj pj => ?_⟩
        by_cases e : j = n
        · subst e; exact absurd pj cn
        · exact hm j (by omega) pj
    · obtain ⟨j, hj, pj⟩ := hex
      have e : j = n := by
        rcases Nat.lt_or_ge j n with h | h
        · exact absurd ⟨j, h, pj⟩ c
        · omega
      subst e
      refine ⟨j, by omega, pj, fun i hi pi => ?_⟩
      by_cases e : i = j
      · subst e; rcases tot i i with h | h <;> exact h
      · exact absurd ⟨i, by omega, pi⟩ c
theorem pos_of_mul {a b : Int} (h : 0 < a * b) : (0 < a ∧ 0 < b) ∨ (a < 0 ∧ b < 0) := by
  rcases Int.lt_trichotomy a 0 with ha | ha | ha
  · rcases Int.lt_trichotomy b 0 with hb | hb | hb
    · exact Or.inr ⟨ha, hb⟩
    · subst hb; simp at h
    · have := Int.mul_neg_of_neg_of_pos ha hb; omega
  · subst ha; simp at h
  · rcases Int.lt_trichotomy b 0 with hb | hb | hb
    · have := Int.mul_neg_of_pos_of_neg ha hb; omega
    · subst hb; simp at h
    · exact Or.inl ⟨ha, hb⟩
theorem neg_of_mul {a b : Int} (h : a * b < 0) : (0 < a ∧ b < 0) ∨ (a < 0 ∧ 0 < b) := by
  rcases Int.lt_trichotomy a 0 with ha | ha | ha
  · rcases Int.lt_trichotomy b 0 with hb | hb | hb
    · have := Int.mul_pos_of_neg_of_neg ha hb; omega
    · subst hb; simp at h
    · exact Or.inr ⟨ha, hb⟩
  · subst ha; simp at h
  · rcases Int.lt_trichotomy b 0 with hb | hb | hb
    · exact Or.inl ⟨ha, hb⟩
    · subst hb; simp at h
    · have := Int.mul_pos ha hb; omega
/-- two lines with one point: they cross there -/
theorem two_on {n : Nat} {A B C : Nat → Int} (hU : LU n A B C) {i j : Nat} (hi : i < n) (hj : j < n) (hij : i ≠ j) {x y d : Int} (hd : 0 < d) (h1 : ht A B C i x y d = 0) (h2 : ht A B C j x y d = 0) :
    cr A B i j ≠ 0 ∧ cr A B i j * x = cr C B i j * d ∧ cr A B i j * y = cr A C i j * d := by
  unfold ht at h1 h2
  unfold cr
  refine ⟨fun h0 => hij (hU i j hi hj ⟨?_, ?_, ?_⟩), ?_, ?_⟩
  · grind
  · have e : (A i * C j - C i * A j) * d = 0 := by grind
    rcases Int.mul_eq_zero.mp e with h | h <;> omega
  · have e : (B i * C j - C i * B j) * d = 0 := by grind
    rcases Int.mul_eq_zero.mp e with h | h <;> omega
  · grind
  · grind
end GE
section GE2
theorem ht_lin (A B C : Nat → Int) (j : Nat) (qx qy qd t : Int) : ht A B C j (qx * (t * t) + qd * t) (qy * (t * t) + qd) (qd * (t * t)) = ht A B C j qx qy qd * (t * t) + A j * qd * t + B j * qd := by
  unfold ht
  grind
theorem ht_lin2 (h a b t : Int) : (h * (t * t) + a * t + b) * h = h * h * (t * t) + a * h * t + b * h := by grind
theorem det_lin (px py pd qx qy qd mx my md t : Int) : px * ((qy * (t * t) + qd) * md - my * (qd * (t * t))) - py * ((qx * (t * t) + qd * t) * md - mx * (qd * (t * t))) + pd * ((qx * (t * t) + qd * t) * my - (qy * (t * t) + qd) * mx) = (px * (qy * md - my * qd) - py * (qx * md - mx * qd) + pd * (qx * my - qy * mx)) * (t * t) + qd * (pd * my - py * md) * t + qd * (px * md - pd * mx) := by grind
theorem det0 {px py pd sx sy sd a b mx my md : Int} (c2 : md * (a * px + b * sx) = mx * (a * pd + b * sd)) (c3 : md * (a * py + b * sy) = my * (a * pd + b * sd)) : (a * pd + b * sd) * (px * (sy * md - my * sd) - py * (sx * md - mx * sd) + pd * (sx * my - sy * mx)) = 0 := by grind
theorem ht_comb (A B C : Nat → Int) (j : Nat) (px py pd sx sy sd a b : Int) : ht A B C j (a * px + b * sx) (a * py + b * sy) (a * pd + b * sd) = a * ht A B C j px py pd + b * ht A B C j sx sy sd := by
  unfold ht
  grind
theorem onm {a b c px py pd mx my md : Int} (e2 : pd * my - py * md = 0) (e3 : px * md - pd * mx = 0) (h : a * mx + b * my - c * md = 0) : md * (a * px + b * py - c * pd) = 0 := by grind
theorem cr_on (A B C : Nat → Int) (i j : Nat) : A i * cr C B i j + B i * cr A C i j - C i * cr A B i j = 0 := by
  unfold cr
  grind
/-- from a point off all lines to another one: a line that is met first, alone -/
theorem geo {n : Nat} {A B C : Nat → Int} (hN : ∀ j, j < n → ¬ (A j = 0 ∧ B j = 0)) (hU : LU n A B C) {px py pd qx qy qd : Int} (hpd : 0 < pd) (hqd : 0 < qd) (hp : ∀ j, j < n → ht A B C j px py pd ≠ 0) {k0 : Nat} (hk0 : k0 < n) (hopp : ht A B C k0 px py pd * ht A B C k0 qx qy qd < 0) :
    ∃ k, k < n ∧ (∃ x y d, 0 < d ∧ ht A B C k x y d = 0 ∧ ∀ j, j < n → j ≠ k → 0 < ht A B C j x y d * ht A B C j px py pd) ∧ (ht A B C k qx qy qd ≠ 0 → ht A B C k px py pd * ht A B C k qx qy qd < 0) := by
  have H : Ev (fun T => (∀ j, j < n → ht A B C j (qx * ((T : Int) * T) + qd * T) (qy * ((T : Int) * T) + qd) (qd * ((T : Int) * T)) ≠ 0 ∧ (ht A B C j qx qy qd ≠ 0 → 0 < ht A B C j (qx * ((T : Int) * T) + qd * T) (qy * ((T : Int) * T) + qd) (qd * ((T : Int) * T)) * ht A B C j qx qy qd)) ∧
      (∀ i, i < n → ∀ j, j < n → cr A B i j ≠ 0 → px * ((qy * ((T : Int) * T) + qd) * cr A B i j - cr A C i j * (qd * ((T : Int) * T))) - py * ((qx * ((T : Int) * T) + qd * T) * cr A B i j - cr C B i j * (qd * ((T : Int) * T))) + pd * ((qx * ((T : Int) * T) + qd * T) * cr A C i j - (qy * ((T : Int) * T) + qd) * cr C B i j) ≠ 0)) := by
    refine Ev.and (Ev.all n (fun j hj => Ev.and ?_ ?_)) (Ev.all n (fun i hi => Ev.all n (fun j hj => ?_)))
    · refine (ev_quad_ne (α := ht A B C j qx qy qd) (β := A j * qd) (γ := B j * qd) ?_).mono (fun T hT => ?_)
      · rintro ⟨-, h2, h3⟩
        refine hN j hj ⟨?_, ?_⟩
        · rcases Int.mul_eq_zero.mp h2 with h | h <;> omega
        · rcases Int.mul_eq_zero.mp h3 with h | h <;> omega
      · rw [ht_lin]
        exact hT
    · by_cases c : ht A B C j qx qy qd = 0
      · exact Ev.tr (fun T h => absurd c h)
      · refine (ev_sign (α := ht A B C j qx qy qd * ht A B C j qx qy qd) (β := A j * qd * ht A B C j qx qy qd) (γ := B j * qd * ht A B C j qx qy qd) c rfl).mono (fun T hT _ => ?_)
        rw [ht_lin, ht_lin2]
        exact hT
    · by_cases c : cr A B i j = 0
      · exact Ev.tr (fun T h => absurd c h)
      · refine (ev_quad_ne (α := px * (qy * cr A B i j - cr A C i j * qd) - py * (qx * cr A B i j - cr C B i j * qd) + pd * (qx * cr A C i j - qy * cr C B i j)) (β := qd * (pd * cr A C i j - py * cr A B i j)) (γ := qd * (px * cr A B i j - pd * cr C B i j)) ?_).mono (fun T hT _ => ?_)
        · rintro ⟨-, h2, h3⟩
          have e2 : pd * cr A C i j - py * cr A B i j = 0 := by rcases Int.mul_eq_zero.mp h2 with h | h <;> omega
          have e3 : px * cr A B i j - pd * cr C B i j = 0 := by rcases Int.mul_eq_zero.mp h3 with h | h <;> omega
          have e4 : cr A B i j * ht A B C i px py pd = 0 := onm e2 e3 (cr_on A B C i j)
          rcases Int.mul_eq_zero.mp e4 with h | h
          · exact c h
          · exact hp i hi h
        · rw [det_lin]
          exact hT
  obtain ⟨T, hT0, hT1, hT2⟩ := H.ex
  obtain ⟨sx, hsx⟩ : ∃ z, z = qx * ((T : Int) * T) + qd * T := ⟨_, rfl⟩
  obtain ⟨sy, hsy⟩ : ∃ z, z = qy * ((T : Int) * T) + qd := ⟨_, rfl⟩
  obtain ⟨sd, hsd⟩ : ∃ z, z = qd * ((T : Int) * T) := ⟨_, rfl⟩
  have hsd0 : 0 < sd := by
    rw [hsd]
    exact Int.mul_pos hqd (Int.mul_pos (by omega) (by omega))
  rw [← hsx, ← hsy, ← hsd] at hT1 hT2
  obtain ⟨u, hu⟩ : ∃ u : Nat → Int, u = fun j => ht A B C j px py pd := ⟨_, rfl⟩
  obtain ⟨w, hw⟩ : ∃ w : Nat → Int, w = fun j => ht A B C j sx sy sd := ⟨_, rfl⟩
  have hu0 : ∀ j, j < n → u j ≠ 0 := fun j hj => by rw [hu]; exact hp j hj
  have hw0 : ∀ j, j < n → w j ≠ 0 := fun j hj => by rw [hw]; exact (hT1 j hj).1
  have hk0' : u k0 * w k0 < 0 := by
    have h1 : ht A B C k0 qx qy qd ≠ 0 := by
      intro e
      rw [e] at hopp
      simp at hopp
    have h2 := (hT1 k0 hk0).2 h1
    rw [hu, hw]
    dsimp only
    rcases neg_of_mul hopp with ⟨a1, a2⟩ | ⟨a1, a2⟩ <;> rcases pos_of_mul h2 with ⟨b1, b2⟩ | ⟨b1, b2⟩
    · omega
    · exact Int.mul_neg_of_pos_of_neg a1 b1
    · exact Int.mul_neg_of_neg_of_pos a1 b1
    · omega
  obtain ⟨k, hk, hkm, hmin⟩ := ex_min (R := fun i j => (u i).natAbs * (w j).natAbs ≤ (u j).natAbs * (w i).natAbs) (P := fun j => j < n ∧ u j * w j < 0) (fun i j => Nat.le_total _ _) (fun i j k pi pj pk h1 h2 => by
      have hj : 0 < (w j).natAbs := Int.natAbs_pos.mpr (hw0 j pj.1)
      refine Nat.le_of_mul_le_mul_right (c := (w j).natAbs) ?_ hj
      calc (u i).natAbs * (w k).natAbs * (w j).natAbs = (u i).natAbs * (w j).natAbs * (w k).natAbs := Nat.mul_right_comm _ _ _
        _ ≤ (u j).natAbs * (w i).natAbs * (w k).natAbs := Nat.mul_le_mul_right _ h1
        _ = (u j).natAbs * (w k).natAbs * (w i).natAbs := Nat.mul_right_comm _ _ _
        _ ≤ (u k).natAbs * (w j).natAbs * (w i).natAbs := Nat.mul_le_mul_right _ h2
        _ = (u k).natAbs * (w i).natAbs * (w j).natAbs := Nat.mul_right_comm _ _ _) n ⟨k0, hk0, hk0, hk0'⟩
  obtain ⟨a, ha⟩ : ∃ z : Int, z = ((w k).natAbs : Int) := ⟨_, rfl⟩
  obtain ⟨b, hb⟩ : ∃ z : Int, z = ((u k).natAbs : Int) := ⟨_, rfl⟩
  have ha0 : 0 < a := by have := hw0 k hk; omega
  have hb0 : 0 < b := by have := hu0 k hk; omega
  have hlin : ∀ j, ht A B C j (a * px + b * sx) (a * py + b * sy) (a * pd + b * sd) = a * u j + b * w j := by
    intro j
    rw [hu, hw]
    exact ht_comb A B C j px py pd sx sy sd a b
  have hkz : a * u k + b * w k = 0 := by
    rcases neg_of_mul hkm.2 with ⟨h1, h2⟩ | ⟨h1, h2⟩
    · have e1 : a = -w k := by omega
      have e2 : b = u k := by omega
      rw [e1, e2, Int.neg_mul, Int.mul_comm]; omega
    · have e1 : a = w k := by omega
      have e2 : b = -u k := by omega
      rw [e1, e2, Int.neg_mul, Int.mul_comm]; omega
  have hd0 : 0 < a * pd + b * sd := by
    have h1 := Int.mul_pos ha0 hpd
    have h2 := Int.mul_pos hb0 hsd0
    omega
  refine ⟨k, hk, ⟨a * px + b * sx, a * py + b * sy, a * pd + b * sd, hd0, by rw [hlin]; exact hkz, ?_⟩, ?_⟩
  · intro j hj hjk
    have hne : ht A B C j (a * px + b * sx) (a * py + b * sy) (a * pd + b * sd) ≠ 0 := by
      intro e
      obtain ⟨c1, c2, c3⟩ := two_on hU hj hk hjk hd0 e (by rw [hlin]; exact hkz)
      have c4 := hT2 j hj k hk c1
      apply c4
      have e5 := det0 (px := px) (py := py) (pd := pd) (sx := sx) (sy := sy) (sd := sd) (a := a) (b := b) c2 c3
      rcases Int.mul_eq_zero.mp e5 with h | h
      · omega
      · exact h
    rw [hlin] at hne ⊢
    show 0 < (a * u j + b * w j) * ht A B C j px py pd
    have hj2 : ht A B C j px py pd = u j := by rw [hu]
    rw [hj2]
    rcases Int.lt_trichotomy (u j * w j) 0 with h | h | h
    · have hm := hmin j hj ⟨hj, h⟩
      have hm2 : b * ((w j).natAbs : Int) ≤ ((u j).natAbs : Int) * a := by
        rw [ha, hb]
        exact_mod_cast hm
      rcases neg_of_mul h with ⟨h1, h2⟩ | ⟨h1, h2⟩
      · have e1 : ((w j).natAbs : Int) = -w j := by omega
        have e2 : ((u j).natAbs : Int) = u j := by omega
        rw [e1, e2, Int.mul_neg] at hm2
        have e3 : u j * a = a * u j := Int.mul_comm _ _
        exact Int.mul_pos (by omega) h1
      · have e1 : ((w j).natAbs : Int) = w j := by omega
        have e2 : ((u j).natAbs : Int) = -u j := by omega
        rw [e1, e2, Int.neg_mul] at hm2
        have e3 : u j * a = a * u j := Int.mul_comm _ _
        exact Int.mul_pos_of_neg_of_neg (by omega) h1
    · rcases Int.mul_eq_zero.mp h with h | h
      · exact absurd h (hu0 j hj)
      · exact absurd h (hw0 j hj)
    · rcases pos_of_mul h with ⟨h1, h2⟩ | ⟨h1, h2⟩
      · have e1 := Int.mul_pos ha0 h1
        have e2 := Int.mul_pos hb0 h2
        exact Int.mul_pos (by omega) h1
      · have e1 := Int.mul_neg_of_pos_of_neg ha0 h1
        have e2 := Int.mul_neg_of_pos_of_neg hb0 h2
        exact Int.mul_pos_of_neg_of_neg (by omega) h1
  · intro hq
    have h2 := (hT1 k hk).2 hq
    have h3 := hkm.2
    rw [hu, hw] at h3
    dsimp only at h3
    rcases neg_of_mul h3 with ⟨a1, a2⟩ | ⟨a1, a2⟩ <;> rcases pos_of_mul h2 with ⟨b1, b2⟩ | ⟨b1, b2⟩
    · omega
    · exact Int.mul_neg_of_pos_of_neg a1 b2
    · exact Int.mul_neg_of_neg_of_pos a1 b2
    · omega
end GE2

