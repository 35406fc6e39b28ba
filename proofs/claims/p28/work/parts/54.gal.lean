/-! ===== galleries: ways counted from the start and from the end ===== -/
section GA
theorem pc_bit {c l : Nat} (hc : c < 512) (hl : l < 9) (h : c.testBit l = true) : pc (c ^^^ 2 ^ l) + 1 = pc c := by
  have g : ∀ c, c < 512 → ∀ l, l < 9 → c.testBit l = true → pc (c ^^^ 2 ^ l) + 1 = pc c := by decide +kernel
  exact g c hc l hl h
theorem pc_0 {c : Nat} (hc : c < 512) (h : pc c = 0) : c = 0 := by
  have g : ∀ c, c < 512 → pc c = 0 → c = 0 := by decide +kernel
  exact g c hc h
theorem pc_le (c : Nat) : pc c ≤ 9 := rk_le _ 9
theorem bit_9 {c l : Nat} (hc : c < 512) (h : c.testBit l = true) : l < 9 := by
  rcases Nat.lt_or_ge l 9 with z | z
  · exact z
  · rw [Nat.testBit_lt_two_pow (Nat.lt_of_lt_of_le hc (by have := Nat.pow_le_pow_right (n := 2) (by omega) z; omega))] at h
    cases h
theorem xor_bit_lt {c l : Nat} (hc : c < 512) (h : c.testBit l = true) : c ^^^ 2 ^ l < c := by
  have g : ∀ c, c < 512 → ∀ l, l < 9 → c.testBit l = true → c ^^^ 2 ^ l < c := by decide +kernel
  exact g c hc l (bit_9 hc h) h
theorem sumN_sf {f : Nat → Nat} {n : Nat} (h : f n = 0) : sumN f (n + 1) = sumN f n := by rw [sumN_s, h, Nat.add_zero]
theorem sumN_st {f : Nat → Nat} {n v : Nat} (h : f n = v) : sumN f (n + 1) = sumN f n + v := by rw [sumN_s, h]
theorem sumN_swap (f : Nat → Nat → Nat) (m : Nat) : ∀ n, sumN (fun i => sumN (fun j => f i j) m) n = sumN (fun j => sumN (fun i => f i j) n) m
  | 0 => by
    have : ∀ m, sumN (fun j => sumN (fun i => f i j) 0) m = 0 := fun m => by
      induction m with
      | zero => rfl
      | succ m ih => rw [sumN_s, ih]; rfl
    rw [this]; rfl
  | n + 1 => by
    rw [sumN_s, sumN_swap f m n]
    have : ∀ m, sumN (fun j => sumN (fun i => f i j) n) m + sumN (fun j => f n j) m = sumN (fun j => sumN (fun i => f i j) (n + 1)) m := fun m => by
      induction m with
      | zero => rfl
      | succ m ih => rw [sumN_s, sumN_s, sumN_s, ← ih, sumN_s]; omega
    exact this m
theorem sumN_0 : ∀ {m : Nat} {f : Nat → Nat}, (∀ i, i < m → f i = 0) → sumN f m = 0
  | 0, _, _ => rfl
  | m + 1, f, h => by rw [sumN_s, h m (by omega), sumN_0 (fun i hi => h i (by omega))]
theorem sumN_mulc (c : Nat) (f : Nat → Nat) : ∀ m, sumN (fun i => c * f i) m = c * sumN f m
  | 0 => rfl
  | m + 1 => by rw [sumN_s, sumN_s, sumN_mulc c f m, Nat.mul_add]
theorem sumN_le {b : Nat} : ∀ {m : Nat} {f : Nat → Nat}, (∀ i, i < m → f i ≤ b) → sumN f m ≤ m * b
  | 0, _, _ => Nat.zero_le _
  | m + 1, f, h => by
    have h1 := sumN_le (m := m) (f := f) (fun i hi => h i (by omega))
    have h2 := h m (by omega)
    rw [sumN_s, Nat.succ_mul]
    omega
theorem sumN_ge : ∀ {m : Nat} {f : Nat → Nat} {i : Nat}, i < m → f i ≤ sumN f m
  | 0, _, _, h => absurd h (Nat.not_lt_zero _)
  | m + 1, f, i, h => by
    rw [sumN_s]
    by_cases e : i = m
    · subst e; omega
    · have := sumN_ge (m := m) (f := f) (show i < m by omega)
      omega
theorem sumN_ext {f : Nat → Nat} {n : Nat} : ∀ {m : Nat}, n ≤ m → (∀ i, n ≤ i → i < m → f i = 0) → sumN f m = sumN f n
  | 0, h, _ => by
    obtain rfl : n = 0 := by omega
    rfl
  | m + 1, h, hz => by
    by_cases e : n = m + 1
    · subst e; rfl
    · rw [sumN_s, hz m (by omega) (by omega), sumN_ext (m := m) (by omega) (fun i h1 h2 => hz i h1 (by omega)), Nat.add_zero]
/-- ways from a over the lines of c, by the first line -/
def waF (p : Nat → Bool) : Nat → Nat → Nat → Nat
  | 0, _, _ => 1
  | m + 1, a, c => sumN (fun l => if c.testBit l then (if p (a ^^^ 2 ^ l) then 1 else 0) * waF p m (a ^^^ 2 ^ l) (c ^^^ 2 ^ l) else 0) 9
/-- .. by the last one -/
def waG (p : Nat → Bool) : Nat → Nat → Nat → Nat
  | 0, _, _ => 1
  | m + 1, a, c => (if p (a ^^^ c) then 1 else 0) * sumN (fun l => if c.testBit l then waG p m a (c ^^^ 2 ^ l) else 0) 9
theorem waF_s (p : Nat → Bool) (m a c : Nat) : waF p (m + 1) a c = sumN (fun l => if c.testBit l then (if p (a ^^^ 2 ^ l) then 1 else 0) * waF p m (a ^^^ 2 ^ l) (c ^^^ 2 ^ l) else 0) 9 := rfl
theorem waG_s (p : Nat → Bool) (m a c : Nat) : waG p (m + 1) a c = (if p (a ^^^ c) then 1 else 0) * sumN (fun l => if c.testBit l then waG p m a (c ^^^ 2 ^ l) else 0) 9 := rfl
theorem xor_sw (a b c : Nat) : (a ^^^ b) ^^^ c = (a ^^^ c) ^^^ b := by rw [Nat.xor_assoc, Nat.xor_comm b c, Nat.xor_assoc]
theorem xor_cc (a c : Nat) : (a ^^^ c) ^^^ c = a := by rw [Nat.xor_assoc, Nat.xor_self, Nat.xor_zero]
theorem xor_two (a b c : Nat) : (a ^^^ c) ^^^ (b ^^^ c) = a ^^^ b := by rw [Nat.xor_comm b c, ← Nat.xor_assoc, xor_cc]
theorem bit_xor {c k l : Nat} (h : l ≠ k) : (c ^^^ 2 ^ k).testBit l = c.testBit l := by rw [Nat.testBit_xor, Nat.testBit_two_pow, decide_eq_false (fun z => h z.symm), Bool.xor_false]
theorem bit_xor' {c k : Nat} : (c ^^^ 2 ^ k).testBit k = !c.testBit k := by rw [Nat.testBit_xor, Nat.testBit_two_pow_self, Bool.xor_true]
theorem waFG (p : Nat → Bool) : ∀ (m a c : Nat), c < 512 → pc c = m → waF p m a c = waG p m a c
  | 0, _, _, _, _ => rfl
  | 1, a, c, hc, hm => by
    rw [waF_s, waG_s, ← sumN_mulc]
    apply sumN_cong
    intro l hl
    by_cases h : c.testBit l = true
    · rw [if_pos h, if_pos h]
      have h1 := pc_bit hc hl h
      have h2 := pc_0 (xor_lt hc hl) (show pc (c ^^^ 2 ^ l) = 0 by omega)
      have h3 : 2 ^ l = c := by
        have := congrArg (· ^^^ 2 ^ l) h2
        simp only [xor_cc, Nat.zero_xor] at this
        exact this.symm
      rw [h3]
      rfl
    · rw [if_neg h, if_neg h, Nat.mul_zero]
  | m + 2, a, c, hc, hm => by
    have ih := waFG p (m + 1)
    rw [waF_s, waG_s]
    -- inside: over the first, then the last line
    have e1 : sumN (fun l => if c.testBit l then (if p (a ^^^ 2 ^ l) then 1 else 0) * waF p (m + 1) (a ^^^ 2 ^ l) (c ^^^ 2 ^ l) else 0) 9 = sumN (fun l => (if p (a ^^^ c) then 1 else 0) * sumN (fun k => if c.testBit l then (if (c ^^^ 2 ^ l).testBit k then (if p (a ^^^ 2 ^ l) then 1 else 0) * waG p m (a ^^^ 2 ^ l) ((c ^^^ 2 ^ l) ^^^ 2 ^ k) else 0) else 0) 9) 9 := by
      apply sumN_cong
      intro l hl
      by_cases h : c.testBit l = true
      · have h1 := pc_bit hc hl h
        rw [if_pos h, ih _ _ (xor_lt hc hl) (by omega), waG_s, xor_two, Nat.mul_left_comm, ← sumN_mulc]
        congr 1
        apply sumN_cong
        intro k hk
        rw [if_pos h]
        by_cases h2 : (c ^^^ 2 ^ l).testBit k = true
        · rw [if_pos h2, if_pos h2]
        · rw [if_neg h2, if_neg h2, Nat.mul_zero]
      · rw [if_neg h, sumN_0 (fun k hk => by rw [if_neg h]), Nat.mul_zero]
    rw [e1, sumN_mulc, sumN_swap]
    congr 1
    apply sumN_cong
    intro k hk
    by_cases h : c.testBit k = true
    · have h1 := pc_bit hc hk h
      rw [if_pos h, ← ih _ _ (xor_lt hc hk) (by omega), waF_s]
      apply sumN_cong
      intro l hl
      by_cases e : l = k
      · subst e
        have z : (c ^^^ 2 ^ l).testBit l = false := by rw [bit_xor', h]; rfl
        rw [if_pos h, z, if_neg (by decide), if_neg (by decide)]
      · rw [bit_xor e, bit_xor (fun z => e z.symm), h, if_pos rfl]
        by_cases h2 : c.testBit l = true
        · have h3 := pc_bit (xor_lt hc hk) hl (show (c ^^^ 2 ^ k).testBit l = true by rw [bit_xor e]; exact h2)
          have h4 := xor_lt (xor_lt hc hk) hl
          rw [if_pos h2, if_pos h2, xor_sw c (2 ^ l) (2 ^ k)]
          congr 1
          exact (waFG p m _ _ h4 (by omega)).symm
        · rw [if_neg h2, if_neg h2]
    · rw [if_neg h]
      apply sumN_0
      intro l hl
      by_cases e : l = k
      · subst e; rw [if_neg h]
      · rw [bit_xor (fun z => e z.symm)]
        by_cases h2 : c.testBit l = true
        · rw [if_pos h2, if_neg h]
        · rw [if_neg h2]
theorem waF_le (p : Nat → Bool) : ∀ (m a c : Nat), waF p m a c ≤ 9 ^ m
  | 0, _, _ => Nat.le_refl 1
  | m + 1, a, c => by
    rw [waF_s, Nat.pow_succ, Nat.mul_comm]
    apply sumN_le
    intro l hl
    have := waF_le p m (a ^^^ 2 ^ l) (c ^^^ 2 ^ l)
    by_cases h : c.testBit l = true
    · rw [if_pos h]
      by_cases h2 : p (a ^^^ 2 ^ l) = true
      · rw [if_pos h2]; omega
      · rw [if_neg h2]; omega
    · rw [if_neg h]; omega
variable {n : Nat} {A B C : Nat → Int} {la lb lc da db dc : Nat → Int32} {N : Nat} {K : Nat} {X Y D : Nat → Int} {mx my md mt mv rs rn rw_ : Nat → Int32} {x' y' d' r' : Nat → Int32} {rk_ : Int32} {p : Nat → Bool}
/-- from one ROOM towards another: a wall between the two -/
theorem step_ex (hN : ∀ j, j < n → ¬ (A j = 0 ∧ B j = 0)) (hU : LU n A B C) {a b : Nat} (ha : Real n A B C a) (hb : Real n A B C b) (hab : a ≠ b) : ∃ k, k < n ∧ (a ^^^ b).testBit k = true ∧ Real n A B C (a ^^^ 2 ^ k) := by
  obtain ⟨x, y, d, ⟨hd, ho⟩, rfl⟩ := ha
  obtain ⟨x', y', d', ⟨hd', ho'⟩, rfl⟩ := hb
  have hex : ∃ k0, k0 < n ∧ ht A B C k0 x y d * ht A B C k0 x' y' d' < 0 := by
    apply Classical.byContradiction
    intro h
    apply hab
    apply abv_eq
    intro l hl
    have h1 := ho l hl
    have h2 := ho' l hl
    constructor
    · intro z
      rcases Int.lt_trichotomy (ht A B C l x' y' d') 0 with w | w | w
      · exact absurd ⟨l, hl, Int.mul_neg_of_pos_of_neg z w⟩ h
      · exact absurd w h2
      · exact w
    · intro z
      rcases Int.lt_trichotomy (ht A B C l x y d) 0 with w | w | w
      · exact absurd ⟨l, hl, Int.mul_neg_of_neg_of_pos w z⟩ h
      · exact absurd w h1
      · exact w
  obtain ⟨k0, hk0, hopp⟩ := hex
  obtain ⟨k, hk, ⟨u, v, w, hw, h0, hj⟩, hq⟩ := geo hN hU hd hd' ho hk0 hopp
  have hopp2 := hq (ho' k hk)
  have hs : Sing n A B C k u v w := by
    refine ⟨hk, hw, h0, fun j hj' e => ?_⟩
    rcases pos_of_mul (hj j hj' e) with ⟨a1, a2⟩ | ⟨a1, a2⟩ <;> omega
  have hc : ∀ l, l < n → l ≠ k → (0 < ht A B C l u v w ↔ 0 < ht A B C l x y d) := by
    intro l hl e
    rcases pos_of_mul (hj l hl e) with ⟨a1, a2⟩ | ⟨a1, a2⟩ <;> omega
  obtain ⟨s1, s2⟩ := sing_real hN hs
  have hz : (abvS n A B C u v w).testBit k = false := by
    apply Bool.eq_false_iff.mpr
    intro z
    rw [abvS_t, h0] at z
    omega
  refine ⟨k, hk, ?_, ?_⟩
  · have tt : ∀ {x y d : Int}, 0 < ht A B C k x y d → (abvS n A B C x y d).testBit k = true := fun h => by rw [abvS_t]; exact ⟨hk, h⟩
    have tf : ∀ {x y d : Int}, ht A B C k x y d < 0 → (abvS n A B C x y d).testBit k = false := fun h => by
      apply Bool.eq_false_iff.mpr
      intro z
      rw [abvS_t] at z
      omega
    rw [Nat.testBit_xor]
    rcases neg_of_mul hopp2 with ⟨a1, a2⟩ | ⟨a1, a2⟩
    · rw [tt a1, tf a2]; rfl
    · rw [tf a1, tt a2]; rfl
  · rcases neg_of_mul hopp2 with ⟨a1, a2⟩ | ⟨a1, a2⟩
    · have e : abvS n A B C x y d ^^^ 2 ^ k = abvS n A B C u v w := by
        apply Nat.eq_of_testBit_eq
        intro l
        by_cases el : l = k
        · subst el
          rw [bit_xor', hz]
          have : (abvS n A B C x y d).testBit l = true := by rw [abvS_t]; exact ⟨hk, a1⟩
          rw [this]; rfl
        · rw [bit_xor el, Bool.eq_iff_iff, abvS_t, abvS_t]
          constructor
          · rintro ⟨h1, h2⟩; exact ⟨h1, (hc l h1 el).mpr h2⟩
          · rintro ⟨h1, h2⟩; exact ⟨h1, (hc l h1 el).mp h2⟩
      rw [e]; exact s1
    · have e : abvS n A B C x y d ^^^ 2 ^ k = abvS n A B C u v w ||| 2 ^ k := by
        apply Nat.eq_of_testBit_eq
        intro l
        by_cases el : l = k
        · subst el
          have : (abvS n A B C x y d).testBit l = false := by
            apply Bool.eq_false_iff.mpr
            intro z
            rw [abvS_t] at z
            omega
          rw [bit_xor', this, Nat.testBit_or, Nat.testBit_two_pow_self, Bool.or_true]
          rfl
        · rw [bit_xor el, Nat.testBit_or, Nat.testBit_two_pow, decide_eq_false (fun z => el z.symm), Bool.or_false, Bool.eq_iff_iff, abvS_t, abvS_t]
          constructor
          · rintro ⟨h1, h2⟩; exact ⟨h1, (hc l h1 el).mpr h2⟩
          · rintro ⟨h1, h2⟩; exact ⟨h1, (hc l h1 el).mp h2⟩
      rw [e]; exact s2
theorem xor_ne0 {a b : Nat} (h : a ≠ b) : a ^^^ b ≠ 0 := by
  intro z
  apply h
  have := congrArg (· ^^^ b) z
  simp only [xor_cc, Nat.zero_xor] at this
  exact this
theorem real_512 (hn : n ≤ 9) {a : Nat} (h : Real n A B C a) : a < 512 := lt512 (real_lt h) hn
/-- between two ROOMS there is a gallery -/
theorem waF_pos (hn : n ≤ 9) (hN : ∀ j, j < n → ¬ (A j = 0 ∧ B j = 0)) (hU : LU n A B C) : ∀ (m a b : Nat), Real n A B C a → Real n A B C b → pc (a ^^^ b) = m → 0 < waF (rB n A B C) m a (a ^^^ b)
  | 0, _, _, _, _, _ => Nat.one_pos
  | m + 1, a, b, ha, hb, hm => by
    have hx : a ^^^ b < 512 := Nat.xor_lt_two_pow (n := 9) (real_512 hn ha) (real_512 hn hb)
    have hab : a ≠ b := by
      intro z
      subst z
      rw [Nat.xor_self] at hm
      have : pc 0 = 0 := by decide
      omega
    obtain ⟨k, hk, hbit, hr⟩ := step_ex hN hU ha hb hab
    have h1 := pc_bit hx (show k < 9 by omega) hbit
    have e : (a ^^^ b) ^^^ 2 ^ k = (a ^^^ 2 ^ k) ^^^ b := xor_sw a b (2 ^ k)
    have ih := waF_pos hn hN hU m (a ^^^ 2 ^ k) b hr hb (by rw [← e]; omega)
    rw [waF_s]
    refine Nat.lt_of_lt_of_le ?_ (sumN_ge (i := k) (show k < 9 by omega))
    rw [if_pos hbit, if_pos (rB_t.mpr hr), Nat.one_mul, e]
    exact ih
/-- a part of a set -/
def sub (c a : Nat) : Prop := ∀ i, c.testBit i = true → a.testBit i = true
theorem nI_m1' : (-1 : Int32) = nI 4294967295 := by decide
theorem sub_iff {c a : Nat} (hc : c < 512) : (nI c &&& (nI a ^^^ (-1)) = 0) ↔ sub c a := by
  rw [nI_m1', nI_xor, nI_and, z_nI, nI_eq (Nat.lt_of_le_of_lt Nat.and_le_left (by omega)) (by omega)]
  have hM : ∀ i, i < 9 → (4294967295 : Nat).testBit i = true := by decide
  constructor
  · intro h i hi
    have h9 := bit_9 hc hi
    have := congrArg (fun z => Nat.testBit z i) h
    simp only [Nat.testBit_and, Nat.testBit_xor, Nat.zero_testBit, hi, hM i h9, Bool.true_and, Bool.xor_true] at this
    cases ha : a.testBit i
    · rw [ha] at this; cases this
    · rfl
  · intro h
    apply Nat.eq_of_testBit_eq
    intro i
    rw [Nat.testBit_and, Nat.testBit_xor, Nat.zero_testBit]
    cases hi : c.testBit i
    · rfl
    · rw [h i hi, hM i (bit_9 hc hi)]; rfl
theorem sub_bit {c a l : Nat} (h : sub c a) : c.testBit l = true → sub (c ^^^ 2 ^ l) a := by
  intro hl i hi
  by_cases e : i = l
  · subst e; exact h i hl
  · rw [bit_xor e] at hi; exact h i hi
theorem xor_inj {a s t : Nat} (h : a ^^^ s = a ^^^ t) : s = t := by
  have := congrArg (a ^^^ ·) h
  simp only [← Nat.xor_assoc, Nat.xor_self, Nat.zero_xor] at this
  exact this
/-- the class: ways into a room -/
theorem c_waysInto (hN : 70000 ≤ N) (hRN : ∀ s, s < 512 → rn s = if p s then nI (rk p s) else -1) {start c : Nat} (hs : start < 512) (hc : c < 512) {m : Nat} (hm : pc c = m + 1) (hw : ∀ t, t < c → sub t c → rw_ (start ^^^ t) = nI (waG p (pc t) start t)) : fX3_waysInto N rn rw_ (nI start) (nI c) = some (nI (waG p (m + 1) start c)) := by
  have hx : start ^^^ c < 512 := Nat.xor_lt_two_pow (n := 9) hs hc
  rw [fX3_waysInto.eq_1, nI_xor, rd_512 hx, hRN _ hx, waG_s]
  by_cases hp : p (start ^^^ c) = true
  · have := rk_le p (start ^^^ c)
    rw [if_pos hp, if_neg (nI_ne_m1 (by omega)), if_pos hp, Nat.one_mul]
    exact loop_u (fun f l => fX3_waysInto_b19 N rw_ (nI start) (nI c) f (nI (sumN (fun l => if c.testBit l then waG p m start (c ^^^ 2 ^ l) else 0) l)) (nI l)) _ 9
      (fun f => by rw [fX3_waysInto_b19.eq_2, if_pos (by decide)])
      (fun f l hl => by
        rw [fX3_waysInto_b19.eq_2, if_neg (show ¬ (9 : Int32) ≤ nI l by rw [le9 (by omega)]; omega), m_isIn N (by omega) (by omega), bd_s, nI_1]
        rcases hb : c.testBit l with _ | _
        · rw [if_pos b01f, sumN_sf (f := fun l => if c.testBit l then waG p m start (c ^^^ 2 ^ l) else 0) (by rw [hb]; rfl)]
        · have h1 := pc_bit hc hl hb
          have h2 : start ^^^ (c ^^^ 2 ^ l) < 512 := Nat.xor_lt_two_pow (n := 9) hs (xor_lt hc hl)
          rw [if_neg b01t, m_bit N (by omega), bd_s, nI_xor, nI_xor, Nat.xor_assoc, rd_512 h2, hw _ (xor_bit_lt hc hb) (fun i hi => by
            by_cases e : i = l
            · subst e; exact hb
            · rw [bit_xor e] at hi; exact hi), nI_add, sumN_st (f := fun l => if c.testBit l then waG p m start (c ^^^ 2 ^ l) else 0) (v := waG p m start (c ^^^ 2 ^ l)) (by rw [hb]; rfl), show pc (c ^^^ 2 ^ l) = m by omega]) 9 N 0 (by omega) (by omega)
  · rw [if_neg hp, if_pos rfl, if_neg hp, Nat.zero_mul]
    rfl
theorem c_shortest (hN : 70000 ≤ N) (hRN : ∀ s, s < 512 → rn s = if p s then nI (rk p s) else -1) {i j a b : Nat} (hi : i < 46) (hj : j < 46) (ha : a < 512) (hb : b < 512) (hra : rs i = nI a) (hrb : rs j = nI b) : ∃ w', fX3_shortestWays N rs rn rw_ (nI i) (nI j) = some (nI (waG p (pc (a ^^^ b)) a (a ^^^ b)), w') := by
  have hx : a ^^^ b < 512 := Nat.xor_lt_two_pow (n := 9) ha hb
  rw [fX3_shortestWays.eq_1, rd_46 hi, hra, rd_46 hj, hrb, ck_512 ha, nI_xor, nI_clamp (by omega)]
  obtain ⟨c, hc⟩ : ∃ c, c = a ^^^ b := ⟨_, rfl⟩
  rw [← hc] at hx ⊢
  obtain ⟨w', ⟨-, h1⟩, h2⟩ := loop_ex (fun f t (s : Nat → Int32) => fX3_shortestWays_b27 N rn (nI a) (nI c) f (nI t) s) (fun s => (rd s 512 (nI a ^^^ nI c) (fun v_481 => some (v_481, s)))) (c + 1)
    (fun t s => 1 ≤ t ∧ ∀ u, u < t → sub u c → s (a ^^^ u) = nI (waG p (pc u) a u))
    (fun f s _ => by rw [fX3_shortestWays_b27.eq_2, if_pos (by rw [nI_ltI (by omega) (by omega)]; omega)])
    (fun f t s ht hp => by
      obtain ⟨ht1, hp⟩ := hp
      rw [fX3_shortestWays_b27.eq_2, if_neg (by rw [nI_ltI (by omega) (by omega)]; omega), nI_1]
      by_cases hsb : sub t c
      · rw [if_pos ((sub_iff (by omega)).mpr hsb)]
        have hpc : ∃ m, pc t = m + 1 := by
          rcases hz : pc t with _ | m
          · exact absurd (pc_0 (by omega) hz) (by omega)
          · exact ⟨m, rfl⟩
        obtain ⟨m, hm⟩ := hpc
        have hat : a ^^^ t < 512 := Nat.xor_lt_two_pow (n := 9) ha (show t < 512 by omega)
        rw [c_waysInto hN hRN ha (show t < 512 by omega) hm (fun u hu hsu => hp u hu (fun i hi => hsb i (hsu i hi))), bd_s, nI_xor, ck_512 hat, nI_clamp (by omega)]
        refine ⟨_, ⟨by omega, fun u hu hsu => ?_⟩, rfl⟩
        by_cases e : u = t
        · subst e; rw [up_s, hm]
        · rw [up_n (fun z => e (xor_inj z))]
          exact hp u (by omega) hsu
      · rw [if_neg (fun z => hsb ((sub_iff (by omega)).mp z))]
        refine ⟨s, ⟨by omega, fun u hu hsu => ?_⟩, rfl⟩
        by_cases e : u = t
        · subst e; exact absurd hsu hsb
        · exact hp u (by omega) hsu)
    c N 1 (upd rw_ a 1) (by omega) (by omega) ⟨Nat.le_refl 1, fun u hu _ => by
      obtain rfl : u = 0 := by omega
      rw [Nat.xor_zero, up_s]
      rfl⟩
  have hac : a ^^^ c < 512 := Nat.xor_lt_two_pow (n := 9) ha hx
  rw [show nI 1 = (1 : Int32) from rfl] at h2
  rw [h2, nI_xor, rd_512 hac, h1 c (by omega) (fun i hi => hi)]
  exact ⟨w', rfl⟩
/-- the reference: ways by the lines yet to be crossed -/
noncomputable def wyR (p : Nat → Bool) (to ap s : Nat) : Nat := if bP (sub s ap) = true then waF p (pc s) (to ^^^ s) s else 0
end GA

