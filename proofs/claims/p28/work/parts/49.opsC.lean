/-! ===== line, takeAway, reflected, isKaleidoscope ===== -/
section OC
def StL (n : Nat) (A B C : Nat → Int) (la lb lc : Nat → Int32) (ln : Int32) (dn : Int32) (da db dc : Nat → Int32) : Prop := ln = nI n ∧ dn = nI n ∧ LD n A B C la lb lc ∧ LD n A B C da db dc ∧ LR n A B C ∧ LU n A B C
def StM (n : Nat) (A B C : Nat → Int) (K : Nat) (X Y D : Nat → Int) (mx my md mt mv : Nat → Int32) (mn : Int32) : Prop := mn = nI K ∧ K ≤ 36 ∧ MSp n A B C K X Y D ∧ Rp K X Y D mx my md ∧ Tp K (fun j => thrS n A B C (X j) (Y j) (D j)) mt ∧ Tp K (fun j => abvS n A B C (X j) (Y j) (D j)) mv
def St (la lb lc : Nat → Int32) (ln : Int32) (mx my md mt mv : Nat → Int32) (mn : Int32) (rs rn : Nat → Int32) (rk_ : Int32) (dn : Int32) (da db dc : Nat → Int32) : Prop := ∃ n A B C K X Y D, StL n A B C la lb lc ln dn da db dc ∧ StM n A B C K X Y D mx my md mt mv mn ∧ RN n A B C rs rn rk_
variable {n : Nat} {A B C : Nat → Int} {la lb lc da db dc : Nat → Int32} {N : Nat} {K : Nat} {X Y D : Nat → Int} {mx my md mt mv rs rn : Nat → Int32}
theorem c_look (hD : LD n A B C la lb lc) (hR : LR n A B C) (hU : LU n A B C) (hN : 70000 ≤ N) (x0 y0 d0 t0 v0 s0 n0 : Nat → Int32) (k0 q0 : Int32) :
    ∃ K X Y D u, fX4_lookAnew N la lb lc (nI n) x0 y0 d0 t0 v0 k0 s0 n0 q0 = some u ∧ StM n A B C K X Y D u.1 u.2.1 u.2.2.1 u.2.2.2.1 u.2.2.2.2.1 u.2.2.2.2.2.1 ∧ RN n A B C u.2.2.2.2.2.2.1 u.2.2.2.2.2.2.2.1 u.2.2.2.2.2.2.2.2 := by
  obtain ⟨K, X, Y, D, mx, my, md, mt, mv, h1, h2, h3, h4, h5, e1⟩ := c_find hD hR hU hN x0 y0 d0 t0 v0 k0
  obtain ⟨rs, rn, rk_, h6, e2⟩ := c_rooms hD hR hU hN h2 h3 h4 h1 s0 n0 q0
  rw [fX4_lookAnew.eq_1, e1, bd_s]
  dsimp only
  rw [e2, bd_s]
  exact ⟨K, X, Y, D, _, rfl, ⟨rfl, h1, h2, h3, h4, h5⟩, h6⟩
theorem le9 {n : Nat} (h : n ≤ 1000) : (9 : Int32) ≤ nI n ↔ 9 ≤ n := nI_leI (a := 9) (by omega) (by omega)
theorem lt9 {n : Nat} (h : n ≤ 1000) : nI n < (9 : Int32) ↔ n < 9 := nI_ltI (b := 9) (by omega) (by omega)
/-! the line with a telling -/
theorem cancel_l {a u v : Int} (ha : a ≠ 0) (h : a * u = a * v) : u = v := cmul ha h
theorem same_uniq (hU : LU n A B C) {a b c : Int} (hab : ¬ (a = 0 ∧ b = 0)) {i j : Nat} (hi : i < n) (hj : j < n) (h1 : same (A i) (B i) (C i) a b c) (h2 : same (A j) (B j) (C j) a b c) : i = j := by
  obtain ⟨p1, p2, p3⟩ := h1
  obtain ⟨q1, q2, q3⟩ := h2
  apply hU i j hi hj
  by_cases ha : a = 0
  · have hb : b ≠ 0 := fun z => hab ⟨ha, z⟩
    refine ⟨cancel_l hb ?_, cancel_l hb ?_, cancel_l hb ?_⟩
    · calc b * (A i * B j) = (A i * b) * B j := by grind
        _ = (B i * a) * B j := by rw [p1]
        _ = B i * (B j * a) := by grind
        _ = B i * (A j * b) := by rw [q1]
        _ = b * (B i * A j) := by grind
    · calc b * (A i * C j) = A i * (C j * b) := by grind
        _ = A i * (B j * c) := by rw [q3]
        _ = A i * B j * c := by grind
        _ = b * (C i * A j) := by subst ha; grind
    · calc b * (B i * C j) = B i * (C j * b) := by grind
        _ = B i * (B j * c) := by rw [q3]
        _ = (B i * c) * B j := by grind
        _ = (C i * b) * B j := by rw [p3]
        _ = b * (C i * B j) := by grind
  · refine ⟨cancel_l ha ?_, cancel_l ha ?_, cancel_l ha ?_⟩
    · calc a * (A i * B j) = A i * (B j * a) := by grind
        _ = A i * (A j * b) := by rw [q1]
        _ = (A i * b) * A j := by grind
        _ = (B i * a) * A j := by rw [p1]
        _ = a * (B i * A j) := by grind
    · calc a * (A i * C j) = A i * (C j * a) := by grind
        _ = A i * (A j * c) := by rw [q2]
        _ = (A i * c) * A j := by grind
        _ = (C i * a) * A j := by rw [p2]
        _ = a * (C i * A j) := by grind
    · calc a * (B i * C j) = B i * (C j * a) := by grind
        _ = B i * (A j * c) := by rw [q2]
        _ = (B i * c) * A j := by grind
        _ = (C i * b) * A j := by rw [p3]
        _ = C i * (A j * b) := by grind
        _ = C i * (B j * a) := by rw [q1]
        _ = a * (C i * B j) := by grind
/-! a new line -/
theorem LD_new (hD : LD n A B C la lb lc) (a b c : Int) : LD (n + 1) (fun j => if j = n then a else A j) (fun j => if j = n then b else B j) (fun j => if j = n then c else C j) (upd la n (iI a)) (upd lb n (iI b)) (upd lc n (iI c)) := by
  intro j hj
  dsimp only
  by_cases e : j = n
  · subst e
    rw [up_s, up_s, up_s, if_pos rfl, if_pos rfl, if_pos rfl]
    exact ⟨rfl, rfl, rfl⟩
  · rw [up_n e, up_n e, up_n e, if_neg e, if_neg e, if_neg e]
    exact hD j (by omega)
theorem LR_new (hR : LR n A B C) (hn : n < 9) {a b c : Int} (ha : a.natAbs ≤ 9) (hb : b.natAbs ≤ 9) (hc : c.natAbs ≤ 9) (hab : ¬ (a = 0 ∧ b = 0)) : LR (n + 1) (fun j => if j = n then a else A j) (fun j => if j = n then b else B j) (fun j => if j = n then c else C j) := by
  refine ⟨by omega, fun j hj => ?_⟩
  dsimp only
  by_cases e : j = n
  · rw [if_pos e, if_pos e, if_pos e]; exact ⟨ha, hb, hc, hab⟩
  · rw [if_neg e, if_neg e, if_neg e]; exact hR.2 j (by omega)
theorem same_sym {a b c a' b' c' : Int} (h : same a b c a' b' c') : same a' b' c' a b c := by
  obtain ⟨h1, h2, h3⟩ := h
  refine ⟨?_, ?_, ?_⟩
  · rw [Int.mul_comm, ← h1, Int.mul_comm]
  · rw [Int.mul_comm, ← h2, Int.mul_comm]
  · rw [Int.mul_comm, ← h3, Int.mul_comm]
theorem LU_new (hU : LU n A B C) {a b c : Int} (hno : ∀ i, i < n → ¬ same (A i) (B i) (C i) a b c) : LU (n + 1) (fun j => if j = n then a else A j) (fun j => if j = n then b else B j) (fun j => if j = n then c else C j) := by
  intro i j hi hj
  dsimp only
  by_cases e : i = n
  · by_cases e2 : j = n
    · intro _; omega
    · rw [if_pos e, if_pos e, if_pos e, if_neg e2, if_neg e2, if_neg e2]
      intro h
      exact absurd (same_sym h) (hno j (by omega))
  · by_cases e2 : j = n
    · rw [if_neg e, if_neg e, if_neg e, if_pos e2, if_pos e2, if_pos e2]
      intro h
      exact absurd h (hno i (by omega))
    · rw [if_neg e, if_neg e, if_neg e, if_neg e2, if_neg e2, if_neg e2]
      exact hU i j (by omega) (by omega)
/-! a line taken away -/
def rem {α : Type} (i : Nat) (f : Nat → α) (j : Nat) : α := if j < i then f j else f (j + 1)
/-- a row's cells, those from i to t one back -/
def shB (i t : Nat) (f : Nat → Int32) (j : Nat) : Int32 := if i ≤ j ∧ j < t then f (j + 1) else f j
theorem shB_0 (i : Nat) (f : Nat → Int32) : shB i i f = f := by
  funext j
  unfold shB
  rw [if_neg (by omega)]
theorem shB_s {i t : Nat} {f : Nat → Int32} (h : i ≤ t) : upd (shB i t f) t (f (t + 1)) = shB i (t + 1) f := by
  funext j
  by_cases e : j = t
  · subst e
    rw [up_s]
    unfold shB
    rw [if_pos (by omega)]
  · rw [up_n e]
    unfold shB
    by_cases c : i ≤ j ∧ j < t
    · rw [if_pos c, if_pos (by omega)]
    · rw [if_neg c, if_neg (by omega)]
theorem shB_r {i t : Nat} {f : Nat → Int32} : shB i t f (t + 1) = f (t + 1) := by
  unfold shB
  rw [if_neg (by omega)]
theorem LD_rem (hD : LD n A B C la lb lc) {i : Nat} (hi : i < n) : LD (n - 1) (rem i A) (rem i B) (rem i C) (shB i (n - 1) la) (shB i (n - 1) lb) (shB i (n - 1) lc) := by
  intro j hj
  unfold rem shB
  by_cases c : j < i
  · rw [if_pos c, if_pos c, if_pos c, if_neg (by omega), if_neg (by omega), if_neg (by omega)]
    exact hD j (by omega)
  · rw [if_neg c, if_neg c, if_neg c, if_pos (by omega), if_pos (by omega), if_pos (by omega)]
    exact hD (j + 1) (by omega)
theorem LR_rem (hR : LR n A B C) {i : Nat} (hi : i < n) : LR (n - 1) (rem i A) (rem i B) (rem i C) := by
  refine ⟨by have := hR.1; omega, fun j hj => ?_⟩
  unfold rem
  by_cases c : j < i
  · rw [if_pos c, if_pos c, if_pos c]; exact hR.2 j (by omega)
  · rw [if_neg c, if_neg c, if_neg c]; exact hR.2 (j + 1) (by omega)
theorem LU_rem (hU : LU n A B C) {i : Nat} (hi : i < n) : LU (n - 1) (rem i A) (rem i B) (rem i C) := by
  intro j k hj hk h
  unfold rem at h
  by_cases c : j < i
  · rw [if_pos c, if_pos c, if_pos c] at h
    by_cases c2 : k < i
    · rw [if_pos c2, if_pos c2, if_pos c2] at h
      exact hU j k (by omega) (by omega) h
    · rw [if_neg c2, if_neg c2, if_neg c2] at h
      have := hU j (k + 1) (by omega) (by omega) h
      omega
  · rw [if_neg c, if_neg c, if_neg c] at h
    by_cases c2 : k < i
    · rw [if_pos c2, if_pos c2, if_pos c2] at h
      have := hU (j + 1) k (by omega) (by omega) h
      omega
    · rw [if_neg c2, if_neg c2, if_neg c2] at h
      have := hU (j + 1) (k + 1) (by omega) (by omega) h
      omega
theorem c_remove (hn : n ≤ 9) (hN : 70000 ≤ N) {i : Nat} (hi : i < n) : fX1_remove N la lb lc (nI n) (nI i) = some (shB i (n - 1) la, shB i (n - 1) lb, shB i (n - 1) lc, nI (n - 1)) := by
  have h := loop_u (fun f j => fX1_remove_b4 N f (nI (j + 1)) (shB i j la) (shB i j lb) (shB i j lc) (nI n)) (some (shB i (n - 1) la, shB i (n - 1) lb, shB i (n - 1) lc, nI (n - 1))) (n - 1)
    (fun f => by rw [fX1_remove_b4.eq_2, if_pos (nI_le' (by omega) (by omega)), nI_m1 n (by omega)])
  have h2 : ∀ m f j, j + m = n - 1 → i ≤ j → m < f → fX1_remove_b4 N f (nI (j + 1)) (shB i j la) (shB i j lb) (shB i j lc) (nI n) = some (shB i (n - 1) la, shB i (n - 1) lb, shB i (n - 1) lc, nI (n - 1)) := by
    intro m
    induction m with
    | zero =>
      intro f j hj hij hf
      obtain ⟨f', rfl⟩ : ∃ f', f = f' + 1 := ⟨f - 1, by omega⟩
      obtain rfl : j = n - 1 := by omega
      rw [fX1_remove_b4.eq_2, if_pos (nI_le' (by omega) (by omega)), nI_m1 n (by omega)]
    | succ m ih =>
      intro f j hj hij hf
      obtain ⟨f', rfl⟩ : ∃ f', f = f' + 1 := ⟨f - 1, by omega⟩
      rw [fX1_remove_b4.eq_2, if_neg (nI_nle' (by omega) (by omega)), nI_sm, rd_9 (by omega), ck_9 (by omega), rd_9 (by omega), ck_9 (by omega), rd_9 (by omega), ck_9 (by omega), nI_1, nI_clamp (by omega), shB_r, shB_r, shB_r, shB_s hij, shB_s hij, shB_s hij]
      exact ih f' (j + 1) (by omega) (by omega) (by omega)
  have h3 := h2 (n - 1 - i) N i (by omega) (Nat.le_refl i) (by omega)
  rw [shB_0, shB_0, shB_0] at h3
  rw [fX1_remove.eq_1, nI_1]
  exact h3
theorem c_checkLine_t (N : Nat) (hn : n ≤ 9) {i : Nat} (hi : i < n) : fX4_checkLine N (nI n) (nI i) = some (.inr ()) := by
  rw [fX4_checkLine.eq_1, if_neg (idx_lt0 hi (by omega)), fX1_count.eq_1, bd_s, if_pos (idx_ltK hi (by omega))]
theorem c_checkLine_f (N : Nat) {x : Int32} (h : bad x n) : fX4_checkLine N (nI n) x = some (.inl xIOO) := by
  rw [fX4_checkLine.eq_1]
  by_cases c : x < 0
  · rw [if_pos c]
  · rw [if_neg c, fX1_count.eq_1, bd_s, if_neg (bad_K h c)]
/-! reflections -/
theorem refl_id (a b p q : Int) : ((a * a + b * b) * p - 2 * (p * a + q * b) * a) * ((a * a + b * b) * p - 2 * (p * a + q * b) * a) + ((a * a + b * b) * q - 2 * (p * a + q * b) * b) * ((a * a + b * b) * q - 2 * (p * a + q * b) * b) = (a * a + b * b) * (a * a + b * b) * (p * p + q * q) := by grind
def rfA (A B C : Nat → Int) (l m : Nat) : Int := (A m * A m + B m * B m) * A l - 2 * (A l * A m + B l * B m) * A m
def rfB (A B C : Nat → Int) (l m : Nat) : Int := (A m * A m + B m * B m) * B l - 2 * (A l * A m + B l * B m) * B m
def rfC (A B C : Nat → Int) (l m : Nat) : Int := (A m * A m + B m * B m) * C l - 2 * (A l * A m + B l * B m) * C m
theorem rf_bd (hR : LR n A B C) {l m : Nat} (hl : l < n) (hm : m < n) : (rfA A B C l m).natAbs ≤ 100000 ∧ (rfB A B C l m).natAbs ≤ 100000 ∧ (rfC A B C l m).natAbs ≤ 100000 ∧ ¬ (rfA A B C l m = 0 ∧ rfB A B C l m = 0) := by
  obtain ⟨a1, a2, a3, a4⟩ := hR.2 l hl
  obtain ⟨b1, b2, b3, b4⟩ := hR.2 m hm
  have m1 := mb b1 b1; have m2 := mb b2 b2; have m3 := mb a1 b1; have m4 := mb a2 b2
  have s1 : (A m * A m + B m * B m).natAbs ≤ 162 := by omega
  have s2 : (2 * (A l * A m + B l * B m)).natAbs ≤ 324 := by omega
  have p1 := mb s1 a1; have p2 := mb s1 a2; have p3 := mb s1 a3; have p4 := mb s2 b1; have p5 := mb s2 b2; have p6 := mb s2 b3
  refine ⟨by unfold rfA; omega, by unfold rfB; omega, by unfold rfC; omega, ?_⟩
  rintro ⟨z1, z2⟩
  have e := refl_id (A m) (B m) (A l) (B l)
  unfold rfA at z1
  unfold rfB at z2
  rw [z1, z2] at e
  have q1 := sq_pos a4
  have q2 := sq_pos b4
  have := Int.mul_pos (Int.mul_pos q2 q2) q1
  omega
end OC

