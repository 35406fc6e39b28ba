/-! ===== one ROOM, all LINES turned towards it: its walls and corners ===== -/
section PG
variable {n : Nat} {A B C : Nat → Int} {K : Nat} {X Y D : Nat → Int}
def Wl (n : Nat) (A B C : Nat → Int) (k : Nat) : Prop := ∃ x y d, 0 < d ∧ ht A B C k x y d = 0 ∧ ∀ j, j < n → j ≠ k → 0 < ht A B C j x y d
def Sta (n : Nat) (A B : Nat → Int) (k : Nat) : Prop := ∃ j, j < n ∧ 0 < cr A B j k
def Cn (n : Nat) (A B C : Nat → Int) (x y d : Int) : Prop := ∀ j, j < n → 0 ≤ ht A B C j x y d
def Cone (n : Nat) (A B : Nat → Int) (u v : Int) : Prop := ∀ j, j < n → 0 ≤ A j * u + B j * v
/-- all other LINES through the point come from behind -/
def Fst (n : Nat) (A B C : Nat → Int) (k : Nat) (x y d : Int) : Prop := ht A B C k x y d = 0 ∧ ∀ j, j < n → j ≠ k → ht A B C j x y d = 0 → 0 < cr A B j k
theorem cr_flip {A B : Nat → Int} {i j : Nat} : cr A B j i = -cr A B i j := by unfold cr; omega
/-- first a row's least by a quotient -/
theorem ex_quo {f g : Nat → Int} {P : Nat → Prop} (hg : ∀ j, P j → 0 < g j) (n : Nat) (h : ∃ j, j < n ∧ P j) : ∃ k, k < n ∧ P k ∧ ∀ j, j < n → P j → f k * g j ≤ f j * g k := by
  refine ex_min (R := fun i j => f i * g j ≤ f j * g i) (P := P) (fun i j => Int.le_total _ _) (fun i j k pi pj pk h1 h2 => ?_) n h
  have hj := hg j pj
  have hi := hg i pi
  have hk := hg k pk
  have e1 := Int.mul_le_mul_of_nonneg_right h1 (Int.le_of_lt hk)
  have e2 := Int.mul_le_mul_of_nonneg_right h2 (Int.le_of_lt hi)
  have e3 : f i * g k * g j ≤ f k * g i * g j := by
    have q1 : f i * g k * g j = f i * g j * g k := by grind
    have q2 : f k * g i * g j = f k * g j * g i := by grind
    have q3 : f j * g i * g k = f j * g k * g i := by grind
    omega
  exact Int.le_of_mul_le_mul_right e3 hj
theorem ht_w {px py pd x y d : Int} {k : Nat} (h : ht A B C k x y d = 0) : A k * (px * d - x * pd) + B k * (py * d - y * pd) = d * ht A B C k px py pd := by
  unfold ht at *
  grind
theorem pluck_w (A B : Nat → Int) (i j k : Nat) (u v : Int) : cr A B k i * (A j * u + B j * v) = cr A B j i * (A k * u + B k * v) + cr A B k j * (A i * u + B i * v) := by
  unfold cr
  grind
/-- the LINE through a corner along which the ROOM is left behind -/
theorem fst_ex (hU : LU n A B C) {px py pd : Int} (hP : ∀ j, j < n → 0 < ht A B C j px py pd) {x y d : Int} (hd : 0 < d) (h : ∃ j, j < n ∧ ht A B C j x y d = 0) : ∃ k, k < n ∧ Fst n A B C k x y d := by
  obtain ⟨u, hu⟩ : ∃ u, u = px * d - x * pd := ⟨_, rfl⟩
  obtain ⟨v, hv⟩ : ∃ v, v = py * d - y * pd := ⟨_, rfl⟩
  have hw : ∀ k, k < n → ht A B C k x y d = 0 → 0 < A k * u + B k * v := by
    intro k hk h0
    rw [hu, hv, ht_w h0]
    exact Int.mul_pos hd (hP k hk)
  obtain ⟨k, hk, hk0, hmin⟩ := ex_min (R := fun i j => 0 ≤ cr A B j i) (P := fun j => j < n ∧ ht A B C j x y d = 0) (fun i j => by have := cr_flip (A := A) (B := B) (i := i) (j := j); omega) (fun i j k pi pj pk h1 h2 => by
    have e := pluck_w A B i j k u v
    have a1 := hw i pi.1 pi.2
    have a2 := hw j pj.1 pj.2
    have a3 := hw k pk.1 pk.2
    have b1 := Int.mul_nonneg h1 (Int.le_of_lt a3)
    have b2 := Int.mul_nonneg h2 (Int.le_of_lt a1)
    rcases (show 0 ≤ cr A B k i ∨ cr A B k i < 0 by omega) with z | z
    · exact z
    · have := Int.mul_neg_of_neg_of_pos z a2
      omega) n (by obtain ⟨j, hj, h0⟩ := h; exact ⟨j, hj, hj, h0⟩)
  refine ⟨k, hk, hk0.2, fun j hj hjk h0 => ?_⟩
  have h1 := hmin j hj ⟨hj, h0⟩
  obtain ⟨c, -, -⟩ := two_on hU hj hk hjk hd h0 hk0.2
  omega
/-- that LINE is a wall -/
theorem fst_wall {k : Nat} (hk : k < n) {x y d : Int} (hd : 0 < d) (hc : Cn n A B C x y d) (h : Fst n A B C k x y d) : Wl n A B C k := by
  obtain ⟨x', y', d', hd', h1, h2⟩ := off_pt (A := A) (B := B) (C := C) n hd (B k) (-A k)
  refine ⟨x', y', d', hd', by rw [h2 k h.1, dir_on], fun j hj hjk => ?_⟩
  by_cases c : ht A B C j x y d = 0
  · rw [h2 j c, dir_cr]
    exact h.2 j hj hjk c
  · have := hc j hj
    exact (h1 j hj).1 (by omega)
/-- along a LINE -/
theorem along_cr {j k : Nat} {x y d x' y' d' : Int} (h1 : ht A B C k x y d = 0) (h2 : ht A B C k x' y' d' = 0) : (A k * A k + B k * B k) * (ht A B C j x y d * d' - ht A B C j x' y' d' * d) = cr A B k j * (pos A B k x y * d' - pos A B k x' y' * d) := by
  have e := along_id (p := A j) (q := B j) (e := C j) h1 h2
  unfold pos cr
  unfold ht at *
  rw [e]
  have : B j * A k - A j * B k = A k * B j - A j * B k := by rw [Int.mul_comm (B j)]
  rw [this]
/-- one LINE leads from one corner alone -/
theorem fst_one (hN : ∀ j, j < n → ¬ (A j = 0 ∧ B j = 0)) (hU : LU n A B C) (hM : MSp n A B C K X Y D) {k m m' : Nat} (hk : k < n) (hm : m < K) (hm' : m' < K) (hc : Cn n A B C (X m) (Y m) (D m)) (hc' : Cn n A B C (X m') (Y m') (D m')) (h : Fst n A B C k (X m) (Y m) (D m)) (h' : Fst n A B C k (X m') (Y m') (D m')) : m = m' := by
  have hsq := sq_pos (hN k hk)
  have oth : ∀ i, i < K → ht A B C k (X i) (Y i) (D i) = 0 → ∃ j, j < n ∧ j ≠ k ∧ ht A B C j (X i) (Y i) (D i) = 0 := by
    intro i hi h0
    obtain ⟨-, a, b, -, hat⟩ := hM.1 i hi
    by_cases e : a = k
    · refine ⟨b, hat.2.1, fun z => hat.2.2.1 ?_, hat.2.2.2.2⟩
      rw [e, z]
      exact cr_self A B k
    · exact ⟨a, hat.1, e, hat.2.2.2.1⟩
  obtain ⟨j, hj, hjk, hj0⟩ := oth m hm h.1
  obtain ⟨j', hj', hjk', hj0'⟩ := oth m' hm' h'.1
  have d1 := (hM.1 m hm).1.1
  have d2 := (hM.1 m' hm').1.1
  have c1 := h.2 j hj hjk hj0
  have c2 := h'.2 j' hj' hjk' hj0'
  have e1 := along_cr (j := j) h.1 h'.1
  have e2 := along_cr (j := j') h.1 h'.1
  rw [cr_flip (i := j)] at e1
  rw [cr_flip (i := j')] at e2
  rw [hj0] at e1
  rw [hj0'] at e2
  rcases Int.lt_trichotomy (pos A B k (X m) (Y m) * D m' - pos A B k (X m') (Y m') * D m) 0 with c | c | c
  · exfalso
    have q := Int.mul_pos_of_neg_of_neg (show -cr A B j k < 0 by omega) c
    have q1 := hc' j hj
    have q2 := Int.mul_nonneg q1 (Int.le_of_lt d1)
    have q3 := Int.mul_nonneg (Int.le_of_lt hsq) q2
    rw [Int.zero_mul, Int.zero_sub, Int.mul_neg] at e1
    omega
  · have e3 : ht A B C j (X m') (Y m') (D m') = 0 := by
      rw [c, Int.mul_zero, Int.zero_mul, Int.zero_sub] at e1
      rcases Int.mul_eq_zero.mp e1 with z | z
      · omega
      · have z' : ht A B C j (X m') (Y m') (D m') * D m = 0 := by omega
        rcases Int.mul_eq_zero.mp z' with w | w
        · exact w
        · omega
    exact one_meet hU hM hk hj (fun z => hjk z.symm) hm hm' h.1 hj0 h'.1 e3
  · exfalso
    have q := Int.mul_neg_of_neg_of_pos (show -cr A B j' k < 0 by omega) c
    have q1 := hc j' hj'
    have q2 := Int.mul_nonneg q1 (Int.le_of_lt d2)
    have q3 := Int.mul_nonneg (Int.le_of_lt hsq) q2
    rw [Int.zero_mul, Int.sub_zero] at e2
    omega
/-- a wall that has a start has it at a corner -/
theorem wall_sta (hM : MSp n A B C K X Y D) {k : Nat} (hk : k < n) (hw : Wl n A B C k) (hs : Sta n A B k) : ∃ m, m < K ∧ Cn n A B C (X m) (Y m) (D m) ∧ Fst n A B C k (X m) (Y m) (D m) := by
  obtain ⟨x, y, d, hd, h0, hj⟩ := hw
  obtain ⟨i, hi, hpi, hmin⟩ := ex_quo (f := fun j => ht A B C j x y d) (g := fun j => cr A B j k) (P := fun j => 0 < cr A B j k) (fun j z => z) n hs
  have hik : i ≠ k := fun z => by rw [z, cr_self] at hpi; omega
  obtain ⟨c, hc⟩ : ∃ c, c = cr A B i k := ⟨_, rfl⟩
  obtain ⟨h, hh⟩ : ∃ h, h = ht A B C i x y d := ⟨_, rfl⟩
  have hc0 : 0 < c := by omega
  have hh0 : 0 < h := by rw [hh]; exact hj i hi hik
  rw [← hc, ← hh] at hmin
  have hv : ∀ l, ht A B C l (c * x + -(h * B k)) (c * y + h * A k) (c * d) = c * ht A B C l x y d - h * cr A B l k := by
    intro l
    rw [ht_shift, ← dir_cr]
    grind
  have hk0 : ht A B C k (c * x + -(h * B k)) (c * y + h * A k) (c * d) = 0 := by rw [hv, h0, cr_self, Int.mul_zero, Int.mul_zero]; rfl
  have hi0 : ht A B C i (c * x + -(h * B k)) (c * y + h * A k) (c * d) = 0 := by rw [hv, ← hc, ← hh, Int.mul_comm c]; omega
  have hl : ∀ l, l < n → 0 ≤ ht A B C l (c * x + -(h * B k)) (c * y + h * A k) (c * d) ∧ (l ≠ k → cr A B l k ≤ 0 → 0 < ht A B C l (c * x + -(h * B k)) (c * y + h * A k) (c * d)) := by
    intro l hl
    by_cases e : l = k
    · subst e
      exact ⟨by omega, fun z => absurd rfl z⟩
    · have h1 := hj l hl e
      have h2 := Int.mul_pos hc0 h1
      rcases (show cr A B l k ≤ 0 ∨ 0 < cr A B l k by omega) with z | z
      · have := Int.mul_nonpos_of_nonneg_of_nonpos (Int.le_of_lt hh0) z
        rw [hv]
        exact ⟨by omega, fun _ _ => by omega⟩
      · have := hmin l hl z
        have e2 := Int.mul_comm (ht A B C l x y d) c
        rw [hv]
        exact ⟨by omega, fun _ w => by omega⟩
  have hD := Int.mul_pos hc0 hd
  obtain ⟨m, hm, hat⟩ := hM.2.2 k i trivial hk hi (by rw [cr_flip (i := i)]; omega)
  have hdm := (hM.1 m hm).1.1
  have heq := at_eq3 hat ⟨hk, hi, hat.2.2.1, hk0, hi0⟩
  have hsg : ∀ l, ht A B C l (X m) (Y m) (D m) * (c * d) = ht A B C l (c * x + -(h * B k)) (c * y + h * A k) (c * d) * D m := fun l => eq3_ht heq
  refine ⟨m, hm, fun l hl' => ?_, hat.2.2.2.1, fun l hl' hlk hl0 => ?_⟩
  · have a1 := (hl l hl').1
    have a2 := hsg l
    have a3 := Int.mul_nonneg a1 (Int.le_of_lt hdm)
    rcases (show 0 ≤ ht A B C l (X m) (Y m) (D m) ∨ ht A B C l (X m) (Y m) (D m) < 0 by omega) with z | z
    · exact z
    · have := Int.mul_neg_of_neg_of_pos z hD
      omega
  · have a2 := hsg l
    rw [hl0, Int.zero_mul] at a2
    rcases (show cr A B l k ≤ 0 ∨ 0 < cr A B l k by omega) with z | z
    · have a1 := (hl l hl').2 hlk z
      have := Int.mul_pos a1 hdm
      omega
    · exact z
noncomputable def cnB (n : Nat) (A B C : Nat → Int) (X Y D : Nat → Int) (m : Nat) : Bool := bP (Cn n A B C (X m) (Y m) (D m))
noncomputable def wlB (n : Nat) (A B C : Nat → Int) (k : Nat) : Bool := bP (Wl n A B C k)
noncomputable def stB (n : Nat) (A B : Nat → Int) (k : Nat) : Bool := bP (Sta n A B k)
/-- as many corners as walls with a start -/
theorem cnt_cor (hN : ∀ j, j < n → ¬ (A j = 0 ∧ B j = 0)) (hU : LU n A B C) (hM : MSp n A B C K X Y D) {px py pd : Int} (hP : ∀ j, j < n → 0 < ht A B C j px py pd) : rk (cnB n A B C X Y D) K = rk (fun k => wlB n A B C k && stB n A B k) n := by
  apply Nat.le_antisymm
  · have hex : ∀ m, ∃ k, m < K → cnB n A B C X Y D m = true → k < n ∧ Fst n A B C k (X m) (Y m) (D m) := by
      intro m
      by_cases hm : m < K
      · obtain ⟨hr, a, b, -, hat⟩ := hM.1 m hm
        obtain ⟨k, h⟩ := fst_ex hU hP hr.1 ⟨a, hat.1, hat.2.2.2.1⟩
        exact ⟨k, fun _ _ => h⟩
      · exact ⟨0, fun z => absurd z hm⟩
    refine pig2 (f := fun m => Classical.choose (hex m)) (fun m hm hb => ?_) (fun m m' hm hm' hb hb' e => ?_)
    · obtain ⟨h1, h2⟩ := Classical.choose_spec (hex m) hm hb
      obtain ⟨hr, a, b, -, hat⟩ := hM.1 m hm
      refine ⟨h1, ?_⟩
      rw [Bool.and_eq_true]
      unfold wlB stB
      rw [bP_iff, bP_iff]
      refine ⟨fst_wall h1 hr.1 (bP_iff.mp hb) h2, ?_⟩
      by_cases ea : a = Classical.choose (hex m)
      · refine ⟨b, hat.2.1, h2.2 b hat.2.1 (fun z => hat.2.2.1 ?_) hat.2.2.2.2⟩
        rw [ea, z]
        exact cr_self A B _
      · exact ⟨a, hat.1, h2.2 a hat.1 ea hat.2.2.2.1⟩
    · obtain ⟨h1, h2⟩ := Classical.choose_spec (hex m) hm hb
      obtain ⟨h3, h4⟩ := Classical.choose_spec (hex m') hm' hb'
      rw [e] at h2
      exact fst_one hN hU hM h3 hm hm' (bP_iff.mp hb) (bP_iff.mp hb') h2 h4
  · have hex : ∀ k, ∃ m, k < n → (wlB n A B C k && stB n A B k) = true → m < K ∧ Cn n A B C (X m) (Y m) (D m) ∧ Fst n A B C k (X m) (Y m) (D m) := by
      intro k
      by_cases hk : k < n
      · by_cases hb : (wlB n A B C k && stB n A B k) = true
        · have hb' := hb
          rw [Bool.and_eq_true] at hb'
          obtain ⟨m, h⟩ := wall_sta hM hk (bP_iff.mp hb'.1) (bP_iff.mp hb'.2)
          exact ⟨m, fun _ _ => h⟩
        · exact ⟨0, fun _ z => absurd z hb⟩
      · exact ⟨0, fun z => absurd z hk⟩
    refine pig2 (f := fun k => Classical.choose (hex k)) (fun k hk hb => ?_) (fun k k' hk hk' hb hb' e => ?_)
    · obtain ⟨h1, h2, h3⟩ := Classical.choose_spec (hex k) hk hb
      exact ⟨h1, bP_t h2⟩
    · obtain ⟨h1, h2, h3⟩ := Classical.choose_spec (hex k) hk hb
      obtain ⟨h4, h5, h6⟩ := Classical.choose_spec (hex k') hk' hb'
      rw [e] at h3
      apply Classical.byContradiction
      intro c
      have a1 := h3.2 k' hk' (fun z => c z.symm) h6.1
      have a2 := h6.2 k hk c h3.1
      have a3 := cr_flip (A := A) (B := B) (i := k) (j := k')
      omega
/-! walls without a start -/
theorem nsta_cone {k : Nat} (h : ¬ Sta n A B k) : Cone n A B (-B k) (A k) := by
  intro j hj
  rw [neg_dir, dir_cr]
  rcases (show cr A B j k ≤ 0 ∨ 0 < cr A B j k by omega) with z | z
  · omega
  · exact absurd ⟨j, hj, z⟩ h
theorem par_ht {k l : Nat} (h : cr A B k l = 0) (x y d : Int) : (A k * A k + B k * B k) * ht A B C l x y d = (A k * A l + B k * B l) * ht A B C k x y d + ((A k * A l + B k * B l) * C k - (A k * A k + B k * B k) * C l) * d := by
  unfold cr at h
  unfold ht
  grind
theorem par_cr {k l : Nat} (h : cr A B k l = 0) (j : Nat) : (A k * A k + B k * B k) * cr A B j l = (A k * A l + B k * B l) * cr A B j k := by
  unfold cr at *
  grind
theorem par_dot {k l : Nat} (hk : ¬ (A k = 0 ∧ B k = 0)) (hl : ¬ (A l = 0 ∧ B l = 0)) (h : cr A B k l = 0) : A k * A l + B k * B l ≠ 0 := by
  intro z
  have e : (A k * A k + B k * B k) * (A l * A l + B l * B l) = (A k * A l + B k * B l) * (A k * A l + B k * B l) + cr A B k l * cr A B k l := by
    unfold cr
    grind
  rw [z, h] at e
  have := Int.mul_pos (sq_pos hk) (sq_pos hl)
  omega
theorem nsta_one (hN : ∀ j, j < n → ¬ (A j = 0 ∧ B j = 0)) (hNP : NP n A B) {k l : Nat} (hk : k < n) (hl : l < n) (wk : Wl n A B C k) (wl : Wl n A B C l) (sk : ¬ Sta n A B k) (sl : ¬ Sta n A B l) : k = l := by
  apply Classical.byContradiction
  intro hkl
  have ck : ∀ j, j < n → cr A B j k ≤ 0 := fun j hj => by
    rcases (show cr A B j k ≤ 0 ∨ 0 < cr A B j k by omega) with z | z
    · exact z
    · exact absurd ⟨j, hj, z⟩ sk
  have cl : ∀ j, j < n → cr A B j l ≤ 0 := fun j hj => by
    rcases (show cr A B j l ≤ 0 ∨ 0 < cr A B j l by omega) with z | z
    · exact z
    · exact absurd ⟨j, hj, z⟩ sl
  have h1 := ck l hl
  have h2 := cl k hk
  have h3 := cr_flip (A := A) (B := B) (i := k) (j := l)
  have h0 : cr A B k l = 0 := by omega
  have hsq := sq_pos (hN k hk)
  rcases Int.lt_trichotomy (A k * A l + B k * B l) 0 with c | c | c
  · -- turned against one another: all LINES are beside them
    have hz : ∀ j, j < n → cr A B j k = 0 := by
      intro j hj
      have e := par_cr h0 j
      have a1 := ck j hj
      have a2 := cl j hj
      rcases (show cr A B j k < 0 ∨ cr A B j k = 0 by omega) with z | z
      · have b1 := Int.mul_pos_of_neg_of_neg c z
        have b2 := Int.mul_nonpos_of_nonneg_of_nonpos (Int.le_of_lt hsq) a2
        omega
      · exact z
    obtain ⟨i, j, hi, hj, hc⟩ := hNP
    exact hc (par_tr (hN k hk) (hz i hi) (hz j hj))
  · exact par_dot (hN k hk) (hN l hl) h0 c
  · obtain ⟨x, y, d, hd, z0, zj⟩ := wk
    obtain ⟨x', y', d', hd', z0', zj'⟩ := wl
    have e1 := par_ht (C := C) h0 x y d
    have e2 := par_ht (C := C) h0 x' y' d'
    have a1 := zj l hl (fun z => hkl z.symm)
    have a2 := zj' k hk hkl
    rw [z0, Int.mul_zero, Int.zero_add] at e1
    rw [z0', Int.mul_zero] at e2
    have b1 := Int.mul_pos hsq a1
    have b2 := Int.mul_pos c a2
    rcases (show (A k * A l + B k * B l) * C k - (A k * A k + B k * B k) * C l ≤ 0 ∨ 0 < (A k * A l + B k * B l) * C k - (A k * A k + B k * B k) * C l by omega) with z | z
    · have := Int.mul_nonpos_of_nonpos_of_nonneg z (Int.le_of_lt hd)
      omega
    · have := Int.mul_pos z hd'
      omega
theorem turn_A {a b p q al be : Int} (h1 : al = a * p + b * q) (h2 : be = a * q - b * p) : (p * p + q * q) * a = al * p + be * q ∧ (p * p + q * q) * b = al * q - be * p := by
  subst h1; subst h2
  constructor <;> grind
theorem turn_cr {a b a' b' p q : Int} : (p * p + q * q) * (a * b' - a' * b) = (a' * p + b' * q) * (a * q - b * p) - (a * p + b * q) * (a' * q - b' * p) := by grind
theorem tie_id1 {U V e e' p q : Int} : (U * p + e * q) * e' - (V * p + e' * q) * e = (U * e' - V * e) * p := by grind
theorem tie_id2 {U V e e' p q : Int} : (U * q - e * p) * e' - (V * q - e' * p) * e = (U * e' - V * e) * q := by grind
/-- two LINES that go alike against every way are one -/
theorem tie_same {a b c a' b' c' p q x y d : Int} (hpq : ¬ (p = 0 ∧ q = 0)) (hd : 0 < d) (h1 : (a * p + b * q) * (a' * q - b' * p) = (a' * p + b' * q) * (a * q - b * p)) (h2 : (a * x + b * y - c * d) * (a' * q - b' * p) = (a' * x + b' * y - c' * d) * (a * q - b * p)) (hb : 0 < a * q - b * p) (hb' : 0 < a' * q - b' * p) : same a b c a' b' c' := by
  have hs := sq_pos hpq
  obtain ⟨e, he⟩ : ∃ e, e = a * q - b * p := ⟨_, rfl⟩
  obtain ⟨e', he'⟩ : ∃ e', e' = a' * q - b' * p := ⟨_, rfl⟩
  have f1 : (p * p + q * q) * (a * e' - a' * e) = 0 := by
    have q1 : (p * p + q * q) * a = (a * p + b * q) * p + e * q := by rw [he]; grind
    have q2 : (p * p + q * q) * a' = (a' * p + b' * q) * p + e' * q := by rw [he']; grind
    have q3 : (p * p + q * q) * (a * e' - a' * e) = (p * p + q * q) * a * e' - (p * p + q * q) * a' * e := by grind
    rw [← he, ← he'] at h1
    rw [q3, q1, q2, tie_id1, h1, Int.sub_self, Int.zero_mul]
  have f2 : (p * p + q * q) * (b * e' - b' * e) = 0 := by
    have q1 : (p * p + q * q) * b = (a * p + b * q) * q - e * p := by rw [he]; grind
    have q2 : (p * p + q * q) * b' = (a' * p + b' * q) * q - e' * p := by rw [he']; grind
    have q3 : (p * p + q * q) * (b * e' - b' * e) = (p * p + q * q) * b * e' - (p * p + q * q) * b' * e := by grind
    rw [← he, ← he'] at h1
    rw [q3, q1, q2, tie_id2, h1, Int.sub_self, Int.zero_mul]
  have g1 : a * e' = a' * e := by
    rcases Int.mul_eq_zero.mp f1 with z | z <;> omega
  have g2 : b * e' = b' * e := by
    rcases Int.mul_eq_zero.mp f2 with z | z <;> omega
  rw [← he, ← he'] at h2
  have g3 : c * e' = c' * e := by
    have : d * (c * e' - c' * e) = 0 := by
      have r1 : (a * x + b * y - c * d) * e' = a * e' * x + b * e' * y - c * e' * d := by grind
      have r2 : (a' * x + b' * y - c' * d) * e = a' * e * x + b' * e * y - c' * e * d := by grind
      rw [r1, r2, g1, g2] at h2
      grind
    rcases Int.mul_eq_zero.mp this with z | z <;> omega
  have hee : e' * e ≠ 0 := by
    have := Int.mul_pos (show 0 < e' by omega) (show 0 < e by omega)
    omega
  have can : ∀ u v u' v' : Int, u * e' = u' * e → v * e' = v' * e → u * v' = v * u' := by
    intro u v u' v' h3 h4
    have : (e' * e) * (u * v') = (e' * e) * (v * u') := by
      have r1 : (e' * e) * (u * v') = (u * e') * (v' * e) := by grind
      have r2 : (e' * e) * (v * u') = (v * e') * (u' * e) := by grind
      rw [r1, r2, h3, h4]
      exact Int.mul_comm _ _
    exact cmul hee this
  exact ⟨can _ _ _ _ g1 g2, can _ _ _ _ g1 g3, can _ _ _ _ g2 g3⟩
/-- without bound: a wall without a start -/
theorem nsta_ex (hU : LU n A B C) (hNP : NP n A B) {px py pd : Int} (hpd : 0 < pd) (hP : ∀ j, j < n → 0 < ht A B C j px py pd) (h : ∃ u v, ¬ (u = 0 ∧ v = 0) ∧ Cone n A B u v) : ∃ k, k < n ∧ Wl n A B C k ∧ ¬ Sta n A B k := by
  -- a way p q that stays in while its turn to the left doesn't
  have hpq : ∃ p q, ¬ (p = 0 ∧ q = 0) ∧ Cone n A B p q ∧ ∃ j, j < n ∧ 0 < A j * q - B j * p := by
    obtain ⟨u, v, huv, hg⟩ := h
    have hno : ∀ u v : Int, ¬ (u = 0 ∧ v = 0) → Cone n A B u v → Cone n A B (-v) u → Cone n A B (-u) (-v) → False := by
      intro u v huv g1 g2 g3
      obtain ⟨i, j, hi, hj, hc⟩ := hNP
      have f : ∀ k, k < n → A k * u + B k * v = 0 := by
        intro k hk
        have a1 := g1 k hk
        have a3 := g3 k hk
        have e : A k * -u + B k * -v = -(A k * u + B k * v) := by rw [Int.mul_neg, Int.mul_neg]; omega
        omega
      exact hc (flat_cr huv (f i hi) (f j hj))
    by_cases c1 : ∃ j, j < n ∧ 0 < A j * v - B j * u
    · exact ⟨u, v, huv, hg, c1⟩
    · have g2 : Cone n A B (-v) u := by
        intro j hj
        have : ¬ 0 < A j * v - B j * u := fun z => c1 ⟨j, hj, z⟩
        rw [Int.mul_neg]
        omega
      refine ⟨-v, u, fun z => huv ⟨z.2, by omega⟩, g2, ?_⟩
      apply Classical.byContradiction
      intro c2
      refine hno u v huv hg g2 (fun j hj => ?_)
      have : ¬ 0 < A j * u - B j * -v := fun z => c2 ⟨j, hj, z⟩
      rw [Int.mul_neg] at this ⊢
      rw [Int.mul_neg]
      omega
  obtain ⟨p, q, hpq0, hcone, hb⟩ := hpq
  have hsq := sq_pos hpq0
  obtain ⟨al, hal⟩ : ∃ al : Nat → Int, al = fun j => A j * p + B j * q := ⟨_, rfl⟩
  obtain ⟨be, hbe⟩ : ∃ be : Nat → Int, be = fun j => A j * q - B j * p := ⟨_, rfl⟩
  obtain ⟨h0, hh0⟩ : ∃ h0 : Nat → Int, h0 = fun j => ht A B C j px py pd := ⟨_, rfl⟩
  have al_ : ∀ j, al j = A j * p + B j * q := fun j => by rw [hal]
  have be_ : ∀ j, be j = A j * q - B j * p := fun j => by rw [hbe]
  have h0_ : ∀ j, h0 j = ht A B C j px py pd := fun j => by rw [hh0]
  have alp : ∀ j, j < n → 0 ≤ al j := fun j hj => by rw [al_]; exact hcone j hj
  have h0p : ∀ j, j < n → 0 < h0 j := fun j hj => by rw [h0_]; exact hP j hj
  have hev : Ev (fun T => ∀ i, i < n → ∀ j, j < n → 0 < be i → 0 < be j → (al i * be j < al j * be i → (h0 i + (T : Int) * al i) * be j < (h0 j + (T : Int) * al j) * be i) ∧ (i ≠ j → (h0 i + (T : Int) * al i) * be j ≠ (h0 j + (T : Int) * al j) * be i)) := by
    refine Ev.all n (fun i hi => Ev.all n (fun j hj => ?_))
    have e : ∀ T : Nat, (h0 i + (T : Int) * al i) * be j - (h0 j + (T : Int) * al j) * be i = 0 * ((T : Int) * T) + (al i * be j - al j * be i) * (T : Int) + (h0 i * be j - h0 j * be i) := by intro T; grind
    by_cases bi : 0 < be i
    · by_cases bj : 0 < be j
      · have part2 : Ev (fun T => i ≠ j → (h0 i + (T : Int) * al i) * be j ≠ (h0 j + (T : Int) * al j) * be i) := by
          by_cases eij : i = j
          · exact Ev.tr (fun T z => absurd eij z)
          · refine (ev_quad_ne (α := 0) (β := al i * be j - al j * be i) (γ := h0 i * be j - h0 j * be i) ?_).mono (fun T hT _ => ?_)
            · rintro ⟨-, z1, z2⟩
              apply eij
              apply hU i j hi hj
              refine tie_same (p := p) (q := q) (x := px) (y := py) (d := pd) hpq0 hpd ?_ ?_ ?_ ?_
              · rw [← al_, ← al_, ← be_, ← be_]; omega
              · rw [← be_, ← be_]
                have w1 := h0_ i
                have w2 := h0_ j
                unfold ht at w1 w2
                rw [← w1, ← w2]
                omega
              · rw [← be_]; exact bi
              · rw [← be_]; exact bj
            · have := e T
              omega
        by_cases c : al i * be j < al j * be i
        · refine ((ev_quad_neg (α := 0) (β := al i * be j - al j * be i) (γ := h0 i * be j - h0 j * be i) (Or.inr (Or.inl ⟨rfl, by omega⟩))).and part2).mono (fun T hT _ _ => ⟨fun _ => ?_, hT.2⟩)
          have := e T
          have := hT.1
          omega
        · exact part2.mono (fun T hT _ _ => ⟨fun z => absurd z c, hT⟩)
      · exact Ev.tr (fun T _ z => absurd z bj)
    · exact Ev.tr (fun T z => absurd z bi)
  obtain ⟨T, hT, hf⟩ := hev.ex
  obtain ⟨g, hg⟩ : ∃ g : Nat → Int, g = fun j => h0 j + (T : Int) * al j := ⟨_, rfl⟩
  have g_ : ∀ j, g j = h0 j + (T : Int) * al j := fun j => by rw [hg]
  have gp : ∀ j, j < n → 0 < g j := by
    intro j hj
    rw [g_]
    have := Int.mul_nonneg (show (0 : Int) ≤ (T : Int) by omega) (alp j hj)
    have := h0p j hj
    omega
  obtain ⟨k, hk, hbk, hmin⟩ := ex_quo (f := g) (g := be) (P := fun j => 0 < be j) (fun j z => z) n (by obtain ⟨j, hj, z⟩ := hb; exact ⟨j, hj, by rw [be_]; exact z⟩)
  have hle : ∀ j, j < n → 0 < be j → al k * be j ≤ al j * be k := by
    intro j hj bj
    rcases (show al k * be j ≤ al j * be k ∨ al j * be k < al k * be j by omega) with z | z
    · exact z
    · have w1 := (hf j hj k hk bj hbk).1 z
      have w2 := hmin j hj bj
      rw [← g_, ← g_] at w1
      omega
  have hlt : ∀ j, j < n → j ≠ k → 0 < be j → g k * be j < g j * be k := by
    intro j hj hjk bj
    have w1 := (hf j hj k hk bj hbk).2 hjk
    have w2 := hmin j hj bj
    rw [← g_, ← g_] at w1
    omega
  have hval : ∀ j, ht A B C j (be k * (px + (T : Int) * p) + g k * -q) (be k * (py + (T : Int) * q) + g k * p) (be k * pd) = be k * g j - g k * be j := by
    intro j
    rw [ht_shift, ht_go, ← al_, ← h0_, ← g_, be_ j]
    grind
  refine ⟨k, hk, ⟨_, _, _, Int.mul_pos hbk hpd, by rw [hval, Int.mul_comm]; omega, fun j hj hjk => ?_⟩, ?_⟩
  · rw [hval]
    rcases (show be j ≤ 0 ∨ 0 < be j by omega) with z | z
    · have w1 := Int.mul_pos hbk (gp j hj)
      have w2 := Int.mul_nonpos_of_nonneg_of_nonpos (Int.le_of_lt (gp k hk)) z
      omega
    · have w1 := hlt j hj hjk z
      have w2 := Int.mul_comm (g j) (be k)
      omega
  · rintro ⟨j, hj, hc⟩
    have e : (p * p + q * q) * cr A B j k = al k * be j - al j * be k := by
      unfold cr
      rw [turn_cr, ← al_, ← al_, ← be_, ← be_]
    have w := Int.mul_pos hsq hc
    rcases (show be j ≤ 0 ∨ 0 < be j by omega) with z | z
    · have w1 := Int.mul_nonpos_of_nonneg_of_nonpos (alp k hk) z
      have w2 := Int.mul_nonneg (alp j hj) (Int.le_of_lt hbk)
      omega
    · have := hle j hj z
      omega
/-- a wall on the way to a point beyond a LINE -/
theorem wall_to (hN : ∀ j, j < n → ¬ (A j = 0 ∧ B j = 0)) (hU : LU n A B C) {px py pd qx qy qd : Int} (hpd : 0 < pd) (hqd : 0 < qd) (hP : ∀ j, j < n → 0 < ht A B C j px py pd) {i : Nat} (hi : i < n) (hq : ht A B C i qx qy qd < 0) : ∃ k, k < n ∧ Wl n A B C k ∧ ht A B C k qx qy qd ≤ 0 := by
  obtain ⟨k, hk, ⟨x, y, d, hd, h0, hj⟩, h1⟩ := geo hN hU hpd hqd (fun j hj => by have := hP j hj; omega) hi (Int.mul_neg_of_pos_of_neg (hP i hi) hq)
  refine ⟨k, hk, ⟨x, y, d, hd, h0, fun j hj' e => ?_⟩, ?_⟩
  · have a1 := hP j hj'
    rcases pos_of_mul (hj j hj' e) with ⟨a2, -⟩ | ⟨-, a3⟩ <;> omega
  · rcases (show ht A B C k qx qy qd ≤ 0 ∨ 0 < ht A B C k qx qy qd by omega) with z | z
    · exact z
    · have := h1 (by omega)
      have := Int.mul_pos (hP k hk) z
      omega
/-- a wall with a start -/
theorem sta_ex (hN : ∀ j, j < n → ¬ (A j = 0 ∧ B j = 0)) (hU : LU n A B C) (hNP : NP n A B) {px py pd : Int} (hpd : 0 < pd) (hP : ∀ j, j < n → 0 < ht A B C j px py pd) : ∃ k, k < n ∧ Wl n A B C k ∧ Sta n A B k := by
  apply Classical.byContradiction
  intro hno
  have hall : ∀ k, k < n → Wl n A B C k → ¬ Sta n A B k := fun k hk w s => hno ⟨k, hk, w, s⟩
  have hn : 0 < n := by obtain ⟨i, -, hi, -⟩ := hNP; omega
  -- some wall
  have hsq0 := sq_pos (hN 0 hn)
  obtain ⟨t, ht0, htt⟩ : ∃ t : Int, 0 < t ∧ ht A B C 0 px py pd < t := ⟨ht A B C 0 px py pd + 1, by have := hP 0 hn; omega, by omega⟩
  have hq0 : ht A B C 0 (px + t * -A 0) (py + t * -B 0) pd < 0 := by
    rw [ht_go]
    have e : A 0 * -A 0 + B 0 * -B 0 = -(A 0 * A 0 + B 0 * B 0) := by rw [Int.mul_neg, Int.mul_neg]; omega
    rw [e, Int.mul_neg]
    have := le_mul1 (a := A 0 * A 0 + B 0 * B 0) (z := t) (by omega) (by omega)
    rw [Int.mul_comm] at this
    omega
  obtain ⟨k, hk, wk, -⟩ := wall_to hN hU hpd hpd hP hn hq0
  have sk := hall k hk wk
  -- a LINE across it
  have hc : ∃ j, j < n ∧ cr A B j k ≠ 0 := by
    obtain ⟨i, j, hi, hj, hc⟩ := hNP
    by_cases c1 : cr A B i k = 0
    · by_cases c2 : cr A B j k = 0
      · exact absurd (par_tr (hN k hk) c1 c2) hc
      · exact ⟨j, hj, c2⟩
    · exact ⟨i, hi, c1⟩
  obtain ⟨j, hj, hc⟩ := hc
  have hcj : cr A B j k < 0 := by
    rcases (show cr A B j k < 0 ∨ 0 < cr A B j k by omega) with z | z
    · exact z
    · exact absurd ⟨j, hj, z⟩ sk
  obtain ⟨t2, ht2, htt2⟩ : ∃ t : Int, 0 < t ∧ ht A B C j px py pd < t := ⟨ht A B C j px py pd + 1, by have := hP j hj; omega, by omega⟩
  have hqk : ht A B C k (px + t2 * B k) (py + t2 * -A k) pd = ht A B C k px py pd := by
    rw [ht_go, dir_on, Int.mul_zero, Int.add_zero]
  have hqj : ht A B C j (px + t2 * B k) (py + t2 * -A k) pd < 0 := by
    rw [ht_go, dir_cr]
    have := le_mul1 (a := -cr A B j k) (z := t2) (by omega) (by omega)
    rw [Int.neg_mul, Int.mul_comm] at this
    omega
  obtain ⟨l, hl, wl, hl0⟩ := wall_to hN hU hpd hpd hP hj hqj
  have e := nsta_one hN hNP hk hl wk wl sk (hall l hl wl)
  subst e
  rw [hqk] at hl0
  have := hP k hk
  omega
/-- walls and corners -/
theorem cnt_walls (hN : ∀ j, j < n → ¬ (A j = 0 ∧ B j = 0)) (hU : LU n A B C) (hM : MSp n A B C K X Y D) (hNP : NP n A B) {px py pd : Int} (hpd : 0 < pd) (hP : ∀ j, j < n → 0 < ht A B C j px py pd) :
    0 < rk (cnB n A B C X Y D) K ∧ ((∃ u v, ¬ (u = 0 ∧ v = 0) ∧ Cone n A B u v) → rk (wlB n A B C) n = rk (cnB n A B C X Y D) K + 1) ∧ (¬ (∃ u v, ¬ (u = 0 ∧ v = 0) ∧ Cone n A B u v) → rk (wlB n A B C) n = rk (cnB n A B C X Y D) K) := by
  have h1 := cnt_cor hN hU hM hP
  have h2 := rk_part (wlB n A B C) (stB n A B) n
  refine ⟨?_, fun hub => ?_, fun hub => ?_⟩
  · obtain ⟨k, hk, w, s⟩ := sta_ex hN hU hNP hpd hP
    rw [h1]
    have h3 : (fun k => wlB n A B C k && stB n A B k) k = true := by
      dsimp only
      rw [Bool.and_eq_true]
      exact ⟨bP_t w, bP_t s⟩
    have := rk_lt (p := fun k => wlB n A B C k && stB n A B k) hk h3
    omega
  · obtain ⟨k, hk, w, s⟩ := nsta_ex hU hNP hpd hP hub
    have h3 : rk (fun k => wlB n A B C k && !stB n A B k) n = 1 := rk_one hk (fun l hl => by
      rw [Bool.and_eq_true, Bool.not_eq_true']
      constructor
      · rintro ⟨z1, z2⟩
        exact nsta_one hN hNP hl hk (bP_iff.mp z1) w (fun z => by have : stB n A B l = true := bP_t z; rw [this] at z2; cases z2) s
      · rintro rfl
        exact ⟨bP_t w, bP_f s⟩)
    omega
  · have h3 : rk (fun k => wlB n A B C k && !stB n A B k) n = 0 := rk_none (fun l hl => by
      apply Bool.eq_false_iff.mpr
      intro z
      rw [Bool.and_eq_true, Bool.not_eq_true'] at z
      have hns : ¬ Sta n A B l := fun w => by have : stB n A B l = true := bP_t w; rw [this] at z; cases z.2
      exact hub ⟨_, _, e_ne' (hN l hl), nsta_cone hns⟩)
    omega
end PG
