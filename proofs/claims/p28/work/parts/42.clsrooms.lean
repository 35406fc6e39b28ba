/-! ===== the class finds the ROOMS ===== -/
section CRM
variable {n : Nat} {A B C : Nat → Int} {la lb lc : Nat → Int32} {N : Nat} {K : Nat} {X Y D : Nat → Int} {mx my md mt : Nat → Int32}
def Mk (M : Nat → Prop) (rn : Nat → Int32) : Prop := ∀ s, s < 512 → (M s → rn s = 0) ∧ (¬ M s → rn s = -1)
theorem Mk_cong {M M' : Nat → Prop} {rn : Nat → Int32} (h : Mk M rn) (e : ∀ s, M s ↔ M' s) : Mk M' rn := by
  intro s hs
  obtain ⟨h1, h2⟩ := h s hs
  exact ⟨fun z => h1 ((e s).mpr z), fun z => h2 (fun w => z ((e s).mp w))⟩
theorem Mk_upd {M : Nat → Prop} {rn : Nat → Int32} (h : Mk M rn) (t : Nat) : Mk (fun s => M s ∨ s = t) (upd rn t 0) := by
  intro s hs
  by_cases e : s = t
  · subst e
    rw [up_s]
    exact ⟨fun _ => rfl, fun z => absurd (Or.inr rfl) z⟩
  · rw [up_n e]
    obtain ⟨h1, h2⟩ := h s hs
    exact ⟨fun z => h1 (z.resolve_right e), fun z => h2 (fun w => z (Or.inl w))⟩
/-- the two sets beside a point -/
def S2 (n : Nat) (A B C : Nat → Int) (k : Nat) (x y d : Int) (s : Nat) : Prop := s = abvS n A B C x y d ∨ s = abvS n A B C x y d ||| 2 ^ k
theorem c_markBeside (hD : LD n A B C la lb lc) (hR : LR n A B C) (hN : 70000 ≤ N) {k : Nat} (hk : k < n) {x y d : Int} (hx : x.natAbs ≤ 100000) (hy : y.natAbs ≤ 100000) (hd : d.natAbs ≤ 100000) {M : Nat → Prop} {rn : Nat → Int32} (h : Mk M rn) :
    ∃ rn', Mk (fun s => M s ∨ S2 n A B C k x y d s) rn' ∧ ∃ u, fX1_setBelow N la lb lc (nI n) (iI x) (iI y) (iI d) = some u ∧ fX3_markBeside N rn (nI k) u = some rn' := by
  have hn := hR.1
  have h1 := abvS_lt (A := A) (B := B) (C := C) hn x y d
  have h2 := or_lt h1 (pw_lt hk hn)
  have h3 : fX1_setBelow N la lb lc (nI n) (iI x) (iI y) (iI d) = some (nI (abvS n A B C x y d)) := m_setBelow hD hR hN hx hy hd
  have h4 := fX3_markBeside.eq_1 N rn (nI k) (nI (abvS n A B C x y d))
  rw [ck_512 h1, m_bit N (by omega), bd_s, nI_or, ck_512 h2, nI_clamp (by omega), nI_clamp (by omega)] at h4
  refine ⟨_, Mk_cong (Mk_upd (Mk_upd h _) _) (fun s => ?_), _, h3, h4⟩
  unfold S2
  rw [or_assoc]
/-- the sets along a LINE as far as a MEET -/
def Gp (n : Nat) (A B C : Nat → Int) (K : Nat) (X Y D : Nat → Int) (k j s : Nat) : Prop := ∃ x y d, Sing n A B C k x y d ∧ S2 n A B C k x y d s ∧ ∃ i, i < j ∧ i < K ∧ ht A B C k (X i) (Y i) (D i) = 0 ∧ lt3 x y d (X i) (Y i) (D i)
theorem Gp_step (hU : LU n A B C) (hM : MSp n A B C K X Y D) {k j : Nat} (hj : j < K) (hjk : ht A B C k (X j) (Y j) (D j) = 0) {x y d : Int} (hs : Sing n A B C k x y d) (h1 : lt3 x y d (X j) (Y j) (D j)) (h2 : ∀ i, i < j → ht A B C k (X i) (Y i) (D i) = 0 → lt3 (X i) (Y i) (D i) x y d) (s : Nat) : Gp n A B C K X Y D k (j + 1) s ↔ Gp n A B C K X Y D k j s ∨ S2 n A B C k x y d s := by
  constructor
  · rintro ⟨x', y', d', hs', h3, i, hi, hiK, hik, hlt⟩
    by_cases c : ∃ i, i < j ∧ i < K ∧ ht A B C k (X i) (Y i) (D i) = 0 ∧ lt3 x' y' d' (X i) (Y i) (D i)
    · exact Or.inl ⟨x', y', d', hs', h3, c⟩
    · right
      have hij : i = j := by
        rcases Nat.lt_or_ge i j with z | z
        · exact absurd ⟨i, z, hiK, hik, hlt⟩ c
        · omega
      subst hij
      have e : abvS n A B C x' y' d' = abvS n A B C x y d := by
        refine same_gap hU hM hs' hs (fun a ha hak => ?_)
        rcases Nat.lt_trichotomy a i with z | z | z
        · refine ⟨fun _ => h2 a z hak, fun _ => ?_⟩
          rcases lt3_tri (X a) (Y a) (D a) x' y' d' with w | w | w
          · exact w
          · exact absurd w (sing_ne hM hs' ha)
          · exact absurd ⟨a, z, ha, hak, w⟩ c
        · subst z
          exact ⟨fun w => absurd w (fun w => lt3_asy hlt w), fun w => absurd w (fun w => lt3_asy h1 w)⟩
        · have g := hM.2.1 i a z ha
          have d1 := (hM.1 i hj).1.1
          have d2 := (hM.1 a ha).1.1
          exact ⟨fun w => absurd w (fun w => lt3_asy (lt3_tr hs'.2.1 d1 d2 hlt g) w), fun w => absurd w (fun w => lt3_asy (lt3_tr hs.2.1 d1 d2 h1 g) w)⟩
      unfold S2 at *
      rw [← e]
      exact h3
  · rintro (⟨x', y', d', hs', h3, i, hi, z⟩ | h3)
    · exact ⟨x', y', d', hs', h3, i, by omega, z⟩
    · exact ⟨x, y, d, hs, h3, j, by omega, hj, hjk, h1⟩
theorem Gp_skip {k j : Nat} (hjk : j < K → ht A B C k (X j) (Y j) (D j) ≠ 0) (s : Nat) : Gp n A B C K X Y D k (j + 1) s ↔ Gp n A B C K X Y D k j s := by
  constructor
  · rintro ⟨x', y', d', hs', h3, i, hi, hiK, hik, hlt⟩
    have : i ≠ j := by intro z; subst z; exact hjk hiK hik
    exact ⟨x', y', d', hs', h3, i, by omega, hiK, hik, hlt⟩
  · rintro ⟨x', y', d', hs', h3, i, hi, z⟩
    exact ⟨x', y', d', hs', h3, i, by omega, z⟩
theorem Gp_last (hU : LU n A B C) (hM : MSp n A B C K X Y D) {k : Nat} {x y d : Int} (hs : Sing n A B C k x y d) (h2 : ∀ i, i < K → ht A B C k (X i) (Y i) (D i) = 0 → lt3 (X i) (Y i) (D i) x y d) (s : Nat) : Sd n A B C k s ↔ Gp n A B C K X Y D k K s ∨ S2 n A B C k x y d s := by
  constructor
  · rintro ⟨x', y', d', hs', h3⟩
    by_cases c : ∃ i, i < K ∧ i < K ∧ ht A B C k (X i) (Y i) (D i) = 0 ∧ lt3 x' y' d' (X i) (Y i) (D i)
    · exact Or.inl ⟨x', y', d', hs', h3, c⟩
    · right
      have e : abvS n A B C x' y' d' = abvS n A B C x y d := by
        refine same_gap hU hM hs' hs (fun a ha hak => ⟨fun _ => h2 a ha hak, fun _ => ?_⟩)
        rcases lt3_tri (X a) (Y a) (D a) x' y' d' with w | w | w
        · exact w
        · exact absurd w (sing_ne hM hs' ha)
        · exact absurd ⟨a, ha, ha, hak, w⟩ c
      unfold S2
      rw [← e]
      exact h3
  · rintro (⟨x', y', d', hs', h3, -⟩ | h3)
    · exact ⟨x', y', d', hs', h3⟩
    · exact ⟨x, y, d, hs, h3⟩
theorem ht_on (A B C : Nat → Int) (k : Nat) (x y d t : Int) : ht A B C k (x + t * B k) (y + t * -A k) d = ht A B C k x y d := by
  unfold ht
  grind
/-- which way along a LINE the row rises -/
def rises (b a : Int) : Bool := if b = 0 then decide (0 < -a) else decide (0 < b)
theorem mul_pos3 {t d b : Int} (hd : 0 < d) (ht : 0 < t) (hb : 0 < b) : 0 < t * d * b * d := Int.mul_pos (Int.mul_pos (Int.mul_pos ht hd) hb) hd
/-- one step on along the LINE -/
theorem step_up {a b : Int} (hab : ¬ (a = 0 ∧ b = 0)) {x y d t : Int} (hd : 0 < d) (h : (if rises b a then 0 < t else t < 0)) : lt3 x y d (x + t * d * b) (y + t * d * -a) d := by
  unfold lt3 rises at *
  have e1 : (x + t * d * b) * d = x * d + t * b * (d * d) := by grind
  have e2 : (y + t * d * -a) * d = y * d + t * -a * (d * d) := by grind
  have hdd := Int.mul_pos hd hd
  rw [e1, e2]
  by_cases c : b = 0
  · subst c
    rw [if_pos rfl] at h
    right
    refine ⟨by simp, ?_⟩
    by_cases c2 : 0 < -a
    · rw [decide_eq_true c2, if_pos rfl] at h
      have := Int.mul_pos (Int.mul_pos h c2) hdd
      omega
    · rw [decide_eq_false c2, if_neg (by decide)] at h
      have : -a < 0 := by omega
      have := Int.mul_pos (Int.mul_pos_of_neg_of_neg h this) hdd
      omega
  · rw [if_neg c] at h
    left
    by_cases c2 : 0 < b
    · rw [decide_eq_true c2, if_pos rfl] at h
      have := Int.mul_pos (Int.mul_pos h c2) hdd
      omega
    · rw [decide_eq_false c2, if_neg (by decide)] at h
      have : b < 0 := by omega
      have := Int.mul_pos (Int.mul_pos_of_neg_of_neg h this) hdd
      omega
theorem step_dn {a b : Int} (hab : ¬ (a = 0 ∧ b = 0)) {x y d t : Int} (hd : 0 < d) (h : (if rises b a then t < 0 else 0 < t)) : lt3 (x + t * d * b) (y + t * d * -a) d x y d := by
  have h' : (if rises b a then 0 < -t else -t < 0) := by
    by_cases c : rises b a = true
    · rw [if_pos c] at h ⊢; omega
    · rw [if_neg c] at h ⊢; omega
  have := step_up hab (x := x + t * d * b) (y := y + t * d * -a) hd h'
  have e1 : x + t * d * b + -t * d * b = x := by grind
  have e2 : y + t * d * -a + -t * d * -a = y := by grind
  rw [e1, e2] at this
  exact this
/-- the point beyond -/
theorem c_markBeyond (hD : LD n A B C la lb lc) (hR : LR n A B C) (hN : 70000 ≤ N) (hM : MSp n A B C K X Y D) (hP : Rp K X Y D mx my md) (hK : K ≤ 36) {k i : Nat} (hk : k < n) (hi : i < K) {w : Int} (hw : w = 1 ∨ w = -1) {M : Nat → Prop} {rn : Nat → Int32} (h : Mk M rn) :
    ∃ rn', Mk (fun s => M s ∨ S2 n A B C k (X i + (if rises (B k) (A k) then w else -w) * D i * B k) (Y i + (if rises (B k) (A k) then w else -w) * D i * -A k) (D i) s) rn' ∧ fX3_markBeyond N la lb lc (nI n) mx my md rn (nI k) (nI i) (iI w) = some rn' := by
  have hn := hR.1
  obtain ⟨a1, a2, a3⟩ := hD k hk
  obtain ⟨r1, r2, r3, r4⟩ := hR.2 k hk
  obtain ⟨g1, g2, g3⟩ := hP i hi
  obtain ⟨b1, b2, b3, b4⟩ := RowQ_bd hM hR hi
  obtain ⟨σ, hσ⟩ : ∃ σ, σ = (if rises (B k) (A k) then w else -w) := ⟨_, rfl⟩
  have hσ1 : σ = 1 ∨ σ = -1 := by rw [hσ]; split <;> omega
  have m0 : (σ * D i).natAbs ≤ 162 := by rcases hσ1 with z | z <;> rw [z] <;> omega
  have m1 := mb m0 r2
  have m2 := mb m0 (show (-A k).natAbs ≤ 9 by omega)
  obtain ⟨rn', q1, u9, q2, q3⟩ := c_markBeside hD hR hN hk (x := X i + σ * D i * B k) (y := Y i + σ * D i * -A k) (d := D i) (by omega) (by omega) (by omega) h
  rw [← hσ]
  refine ⟨rn', q1, ?_⟩
  have key : ∀ v : Int, v = σ → fX3_markBeyond_b58 N la lb lc (nI n) mx my md (nI k) (nI i) (iI (B k)) (iI (-A k)) rn (iI v) = some rn' := by
    intro v hv
    subst hv
    have hi36 : i < 36 := by omega
    rw [fX3_markBeyond_b58.eq_1]
    simp only [fX2_x.eq_1, fX2_y.eq_1, fX2_d.eq_1, rd_36 hi36, bd_s, nm_s, g1, g2, g3, iI_mul, iI_add, q2, q3]
  have k0 : rises (B k) (A k) = false → fX3_markBeyond_b43 N la lb lc (nI n) mx my md (nI k) (nI i) (iI w) (iI (B k)) (iI (-A k)) rn 0 = some rn' := by
    intro e
    rw [e, if_neg (by decide)] at hσ
    rw [fX3_markBeyond_b43.eq_1, if_pos rfl, iI_neg]
    exact key _ hσ.symm
  have k1 : rises (B k) (A k) = true → fX3_markBeyond_b43 N la lb lc (nI n) mx my md (nI k) (nI i) (iI w) (iI (B k)) (iI (-A k)) rn 1 = some rn' := by
    intro e
    rw [e, if_pos rfl] at hσ
    rw [fX3_markBeyond_b43.eq_1, if_neg (by decide)]
    exact key _ hσ.symm
  rw [fX3_markBeyond.eq_1, fX1_b.eq_1, rd_9 (by omega), bd_s, fX1_a.eq_1, rd_9 (by omega), bd_s, a1, a2, iI_neg]
  unfold rises at k0 k1
  by_cases c : B k = 0
  · rw [if_pos (by rw [iI_eq0 (sm_of r2)]; exact c)]
    rw [if_pos c] at k0 k1
    by_cases c2 : 0 < -A k
    · rw [if_neg (by rw [iI_le0 (sm_of (show (-A k).natAbs ≤ 9 by omega))]; omega)]
      exact k1 (decide_eq_true c2)
    · rw [if_pos (by rw [iI_le0 (sm_of (show (-A k).natAbs ≤ 9 by omega))]; omega)]
      exact k0 (decide_eq_false c2)
  · rw [if_neg (by rw [iI_eq0 (sm_of r2)]; exact c)]
    rw [if_neg c] at k0 k1
    by_cases c2 : 0 < B k
    · rw [if_neg (by rw [iI_le0 (sm_of r2)]; omega)]
      exact k1 (decide_eq_true c2)
    · rw [if_pos (by rw [iI_le0 (sm_of r2)]; omega)]
      exact k0 (decide_eq_false c2)
theorem c_markBetween (hD : LD n A B C la lb lc) (hR : LR n A B C) (hN : 70000 ≤ N) (hM : MSp n A B C K X Y D) (hP : Rp K X Y D mx my md) (hK : K ≤ 36) {k i j : Nat} (hk : k < n) (hi : i < K) (hj : j < K) {M : Nat → Prop} {rn : Nat → Int32} (h : Mk M rn) :
    ∃ rn', Mk (fun s => M s ∨ S2 n A B C k (D j * X i + D i * X j) (D j * Y i + D i * Y j) (D j * D i + D i * D j) s) rn' ∧ fX3_markBetween N la lb lc (nI n) mx my md rn (nI k) (nI i) (nI j) = some rn' := by
  have hn := hR.1
  obtain ⟨g1, g2, g3⟩ := hP i hi
  obtain ⟨g4, g5, g6⟩ := hP j hj
  obtain ⟨b1, b2, b3, b4⟩ := RowQ_bd hM hR hi
  obtain ⟨b5, b6, b7, b8⟩ := RowQ_bd hM hR hj
  have m1 := mb b7 b1; have m2 := mb b3 b5; have m3 := mb b7 b2; have m4 := mb b3 b6; have m5 := mb b7 b3; have m6 := mb b3 b7
  obtain ⟨rn', q1, u9, q2, q3⟩ := c_markBeside hD hR hN hk (x := D j * X i + D i * X j) (y := D j * Y i + D i * Y j) (d := D j * D i + D i * D j) (by omega) (by omega) (by omega) h
  refine ⟨rn', q1, ?_⟩
  have e1 : X i * D j + X j * D i = D j * X i + D i * X j := by grind
  have e2 : Y i * D j + Y j * D i = D j * Y i + D i * Y j := by grind
  have e3 : 2 * D i * D j = D j * D i + D i * D j := by grind
  have hi36 : i < 36 := by omega
  have hj36 : j < 36 := by omega
  rw [fX3_markBetween.eq_1]
  simp only [fX2_x.eq_1, fX2_y.eq_1, fX2_d.eq_1, rd_36 hi36, rd_36 hj36, bd_s, nm_s, g1, g2, g3, g4, g5, g6, iI_mul, iI_add, show (2 : Int32) = iI 2 from rfl, e1, e2, e3, q2, q3]
theorem c_markUncrossed (hD : LD n A B C la lb lc) (hR : LR n A B C) (hN : 70000 ≤ N) {k : Nat} (hk : k < n) {M : Nat → Prop} {rn : Nat → Int32} (h : Mk M rn) :
    ∃ rn', Mk (fun s => M s ∨ S2 n A B C k (A k * C k) (B k * C k) (A k * A k + B k * B k) s) rn' ∧ fX3_markUncrossed N la lb lc (nI n) rn (nI k) = some rn' := by
  have hn := hR.1
  obtain ⟨a1, a2, a3⟩ := hD k hk
  obtain ⟨r1, r2, r3, r4⟩ := hR.2 k hk
  have m1 := mb r1 r3; have m2 := mb r2 r3; have m3 := mb r1 r1; have m4 := mb r2 r2
  obtain ⟨rn', q1, u9, q2, q3⟩ := c_markBeside hD hR hN hk (x := A k * C k) (y := B k * C k) (d := A k * A k + B k * B k) (by omega) (by omega) (by omega) h
  refine ⟨rn', q1, ?_⟩
  rw [fX3_markUncrossed.eq_1, fX1_a.eq_1, rd_9 (by omega), bd_s, fX1_b.eq_1, rd_9 (by omega), bd_s, fX1_c.eq_1, rd_9 (by omega), bd_s, a1, a2, a3, iI_mul, iI_mul, iI_mul, iI_mul, iI_add, q2, bd_s, q3, bd_s]
theorem c_isOn (N : Nat) (hn : n ≤ 9) (hT : Tp K (fun j => thrS n A B C (X j) (Y j) (D j)) mt) (hK : K ≤ 36) {i k : Nat} (hi : i < K) (hk : k < n) : fX2_isOn N mt (nI i) (nI k) = some (b01 (decide (ht A B C k (X i) (Y i) (D i) = 0))) := by
  have h1 := thrS_lt (A := A) (B := B) (C := C) hn (X i) (Y i) (D i)
  have hT' : mt i = nI (thrS n A B C (X i) (Y i) (D i)) := hT i hi
  rw [fX2_isOn.eq_1, rd_36 (by omega), hT', m_isIn N (by omega) (by omega), bd_s, zo_b]
  have : (thrS n A B C (X i) (Y i) (D i)).testBit k = decide (ht A B C k (X i) (Y i) (D i) = 0) := by
    rw [Bool.eq_iff_iff, thrS_t, decide_eq_true_eq]
    exact ⟨fun z => z.2, fun z => ⟨hk, z⟩⟩
  rw [this]
theorem nI_ne_m1 {j : Nat} (h : j < 2147483648) : ¬ nI j = -1 := by
  rw [← iI_nI, iI_m1, iI_eq (sm_n h) (by unfold sm; omega)]
  omega
/-- all of one LINE -/
theorem c_markAlong (hD : LD n A B C la lb lc) (hR : LR n A B C) (hU : LU n A B C) (hN : 70000 ≤ N) (hM : MSp n A B C K X Y D) (hP : Rp K X Y D mx my md) (hT : Tp K (fun j => thrS n A B C (X j) (Y j) (D j)) mt) (hK : K ≤ 36) {k : Nat} (hk : k < n) {M : Nat → Prop} {rn : Nat → Int32} (h : Mk M rn) :
    ∃ rn', Mk (fun s => M s ∨ Sd n A B C k s) rn' ∧ fX3_markAlong N la lb lc (nI n) mx my md mt (nI K) rn (nI k) = some rn' := by
  have hn := hR.1
  obtain ⟨r1, r2, r3, r4⟩ := hR.2 k hk
  rw [fX3_markAlong.eq_1]
  obtain ⟨⟨last, rn1⟩, ⟨p1, p2⟩, e⟩ := loop_ex (fun f j (s : Int32 × (Nat → Int32)) => fX3_markAlong_b6 N la lb lc (nI n) mx my md mt (nI K) (nI k) (fun (x4_416 : Int32) (r_n_417 : Nat → Int32) => if x4_416 = (-1) then bd (fX3_markUncrossed N la lb lc (nI n) r_n_417 (nI k)) (fun u_421 => some u_421) else bd (fX3_markBeyond N la lb lc (nI n) mx my md r_n_417 (nI k) x4_416 1) (fun u_419 => some u_419)) f s.1 (nI j) s.2) (fun s => if s.1 = (-1) then bd (fX3_markUncrossed N la lb lc (nI n) s.2 (nI k)) (fun u_421 => some u_421) else bd (fX3_markBeyond N la lb lc (nI n) mx my md s.2 (nI k) s.1 1) (fun u_419 => some u_419)) K
    (fun j s => Mk (fun t => M t ∨ Gp n A B C K X Y D k j t) s.2 ∧ ((s.1 = -1 ∧ ∀ i, i < j → ht A B C k (X i) (Y i) (D i) ≠ 0) ∨ ∃ p, p < j ∧ s.1 = nI p ∧ ht A B C k (X p) (Y p) (D p) = 0 ∧ ∀ i, p < i → i < j → ht A B C k (X i) (Y i) (D i) ≠ 0))
    (fun f s hp => by
      rw [fX3_markAlong_b6.eq_2, fX2_count.eq_1, bd_s, if_pos (nI_le' (by omega) (Nat.le_refl K))])
    (fun f j s hj hp => by
      obtain ⟨last, rn⟩ := s
      obtain ⟨p1, p2⟩ := hp
      dsimp only at p1 p2 ⊢
      obtain ⟨hr, -⟩ := hM.1 j hj
      rw [fX3_markAlong_b6.eq_2, fX2_count.eq_1, bd_s, if_neg (nI_nle' (by omega) hj), c_isOn N hn hT hK hj hk, bd_s, nI_1]
      by_cases c : ht A B C k (X j) (Y j) (D j) = 0
      · rw [decide_eq_true c, if_neg (show ¬ b01 true = 0 by decide)]
        rcases p2 with ⟨p3, p4⟩ | ⟨p, p3, p4, p5, p6⟩
        · rw [if_pos p3]
          obtain ⟨rn', q1, q2⟩ := c_markBeyond hD hR hN hM hP hK hk hj (w := -1) (Or.inr rfl) p1
          rw [show iI (-1) = (-1 : Int32) from rfl] at q2
          rw [q2, bd_s]
          refine ⟨(nI j, rn'), ⟨Mk_cong q1 (fun s => ?_), Or.inr ⟨j, by omega, rfl, c, fun i h1 h2 => by omega⟩⟩, rfl⟩
          have hlt : lt3 (X j + (if rises (B k) (A k) then -1 else - -1) * D j * B k) (Y j + (if rises (B k) (A k) then -1 else - -1) * D j * -A k) (D j) (X j) (Y j) (D j) := by
            refine step_dn r4 hr.1 ?_
            split <;> decide
          have hall : ∀ i, i < K → ht A B C k (X i) (Y i) (D i) = 0 → lt3 (X j + (if rises (B k) (A k) then -1 else - -1) * D j * B k) (Y j + (if rises (B k) (A k) then -1 else - -1) * D j * -A k) (D j) (X i) (Y i) (D i) := by
            intro i hi hik
            rcases Nat.lt_trichotomy i j with z | z | z
            · exact absurd hik (p4 i z)
            · subst z; exact hlt
            · exact lt3_tr hr.1 hr.1 (hM.1 i hi).1.1 hlt (hM.2.1 j i z hi)
          have hs : Sing n A B C k (X j + (if rises (B k) (A k) then -1 else - -1) * D j * B k) (Y j + (if rises (B k) (A k) then -1 else - -1) * D j * -A k) (D j) := sing_of hU hM hk hr.1 (by rw [ht_on]; exact c) (fun i hi hik z => lt3_irr (hall i hi hik) ⟨z.1.symm, z.2.symm⟩)
          rw [Gp_step hU hM hj c hs hlt (fun i hi hik => absurd hik (p4 i hi))]
          rw [or_assoc]
        · rw [if_neg (by rw [p4]; exact nI_ne_m1 (by omega)), p4]
          obtain ⟨rn', q1, q2⟩ := c_markBetween hD hR hN hM hP hK hk (i := p) (j := j) (by omega) hj p1
          rw [q2, bd_s]
          refine ⟨(nI j, rn'), ⟨Mk_cong q1 (fun s => ?_), Or.inr ⟨j, by omega, rfl, c, fun i h1 h2 => by omega⟩⟩, rfl⟩
          have d1 := (hM.1 p (by omega)).1.1
          have hpj := hM.2.1 p j p3 hj
          have l1 := lt3_mid (a := D j) d1 hpj
          have l2 := lt3_mid' (b := D p) hr.1 hpj
          have hdd : 0 < D j * D p + D p * D j := by have := Int.mul_pos hr.1 d1; have := Int.mul_pos d1 hr.1; omega
          have hlo : ∀ i, i < j → ht A B C k (X i) (Y i) (D i) = 0 → lt3 (X i) (Y i) (D i) (D j * X p + D p * X j) (D j * Y p + D p * Y j) (D j * D p + D p * D j) := by
            intro i hi hik
            rcases Nat.lt_trichotomy i p with z | z | z
            · exact lt3_tr (hM.1 i (by omega)).1.1 d1 hdd (hM.2.1 i p z (by omega)) l1
            · subst z; exact l1
            · exact absurd hik (p6 i z hi)
          have hhi : ∀ i, j ≤ i → i < K → lt3 (D j * X p + D p * X j) (D j * Y p + D p * Y j) (D j * D p + D p * D j) (X i) (Y i) (D i) := by
            intro i hi hiK
            by_cases z : i = j
            · subst z; exact l2
            · exact lt3_tr hdd hr.1 (hM.1 i hiK).1.1 l2 (hM.2.1 j i (by omega) hiK)
          have hs : Sing n A B C k (D j * X p + D p * X j) (D j * Y p + D p * Y j) (D j * D p + D p * D j) := sing_of hU hM hk hdd (by rw [ht_comb, c, p5]; simp) (fun i hi hik z => by
            rcases Nat.lt_or_ge i j with w | w
            · exact lt3_irr (hlo i w hik) z
            · exact lt3_irr (hhi i w hi) ⟨z.1.symm, z.2.symm⟩)
          rw [Gp_step hU hM hj c hs l2 hlo]
          rw [or_assoc]
      · rw [decide_eq_false c, if_pos (show b01 false = 0 from rfl)]
        refine ⟨(last, rn), ⟨Mk_cong p1 (fun s => by rw [Gp_skip (fun _ => c)]), ?_⟩, rfl⟩
        rcases p2 with ⟨p3, p4⟩ | ⟨p, p3, p4, p5, p6⟩
        · refine Or.inl ⟨p3, fun i hi => ?_⟩
          by_cases z : i = j
          · subst z; exact c
          · exact p4 i (by omega)
        · refine Or.inr ⟨p, by omega, p4, p5, fun i h1 h2 => ?_⟩
          by_cases z : i = j
          · subst z; exact c
          · exact p6 i h1 (by omega))
    K N 0 (-1, rn) (by omega) (by omega) ⟨Mk_cong h (fun s => ⟨Or.inl, fun z => z.elim id (fun ⟨_, _, _, _, _, i, hi, _⟩ => absurd hi (Nat.not_lt_zero i))⟩), Or.inl ⟨rfl, fun i hi => absurd hi (Nat.not_lt_zero i)⟩⟩
  rw [show (nI 0) = (0 : Int32) from rfl] at e
  rw [e]
  dsimp only at p1 p2 ⊢
  rcases p2 with ⟨p3, p4⟩ | ⟨p, p3, p4, p5, p6⟩
  · rw [if_pos p3]
    obtain ⟨rn', q1, q2⟩ := c_markUncrossed hD hR hN hk p1
    rw [q2, bd_s]
    refine ⟨rn', Mk_cong q1 (fun s => ?_), rfl⟩
    have hs : Sing n A B C k (A k * C k) (B k * C k) (A k * A k + B k * B k) := sing_of hU hM hk (sq_pos r4) (by unfold ht; grind) (fun i hi hik => absurd hik (p4 i hi))
    rw [Gp_last hU hM hs (fun i hi hik => absurd hik (p4 i hi)), or_assoc]
  · rw [if_neg (by rw [p4]; exact nI_ne_m1 (by omega)), p4]
    obtain ⟨hr, -⟩ := hM.1 p p3
    obtain ⟨rn', q1, q2⟩ := c_markBeyond hD hR hN hM hP hK hk p3 (w := 1) (Or.inl rfl) p1
    rw [show iI 1 = (1 : Int32) from rfl] at q2
    rw [q2, bd_s]
    refine ⟨rn', Mk_cong q1 (fun s => ?_), rfl⟩
    have hlt : lt3 (X p) (Y p) (D p) (X p + (if rises (B k) (A k) then 1 else -1) * D p * B k) (Y p + (if rises (B k) (A k) then 1 else -1) * D p * -A k) (D p) := by
      refine step_up r4 hr.1 ?_
      split <;> decide
    have hall : ∀ i, i < K → ht A B C k (X i) (Y i) (D i) = 0 → lt3 (X i) (Y i) (D i) (X p + (if rises (B k) (A k) then 1 else -1) * D p * B k) (Y p + (if rises (B k) (A k) then 1 else -1) * D p * -A k) (D p) := by
      intro i hi hik
      rcases Nat.lt_trichotomy i p with z | z | z
      · exact lt3_tr (hM.1 i hi).1.1 hr.1 hr.1 (hM.2.1 i p z p3) hlt
      · subst z; exact hlt
      · exact absurd hik (p6 i z hi)
    have hs : Sing n A B C k (X p + (if rises (B k) (A k) then 1 else -1) * D p * B k) (Y p + (if rises (B k) (A k) then 1 else -1) * D p * -A k) (D p) := sing_of hU hM hk hr.1 (by rw [ht_on]; exact p5) (fun i hi hik z => lt3_irr (hall i hi hik) z)
    rw [Gp_last hU hM hs hall, or_assoc]
end CRM

