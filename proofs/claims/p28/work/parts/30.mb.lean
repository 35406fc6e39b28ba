/-! ===== the mathematics: ints and rows of ints ===== -/
section MB
abbrev iI (z : Int) : Int32 := Int32.ofInt z
def sm (z : Int) : Prop := -2147483648 ≤ z ∧ z < 2147483648
theorem iI_toInt {z : Int} (h : sm z) : (iI z).toInt = z := Int32.toInt_ofInt_of_le (by have := h.1; omega) (by have := h.2; omega)
theorem iI_nI (n : Nat) : iI (n : Int) = nI n := Int32.ofInt_eq_ofNat
theorem iI_add (a b : Int) : iI a + iI b = iI (a + b) := (Int32.ofInt_add a b).symm
theorem iI_sub (a b : Int) : iI a - iI b = iI (a - b) := (Int32.ofInt_sub a b).symm
theorem iI_mul (a b : Int) : iI a * iI b = iI (a * b) := (Int32.ofInt_mul a b).symm
theorem iI_neg (a : Int) : -iI a = iI (-a) := (Int32.ofInt_neg a).symm
theorem iI_lt {a b : Int} (ha : sm a) (hb : sm b) : iI a < iI b ↔ a < b := by rw [Int32.lt_iff_toInt_lt, iI_toInt ha, iI_toInt hb]
theorem iI_le {a b : Int} (ha : sm a) (hb : sm b) : iI a ≤ iI b ↔ a ≤ b := by rw [Int32.le_iff_toInt_le, iI_toInt ha, iI_toInt hb]
theorem iI_eq {a b : Int} (ha : sm a) (hb : sm b) : iI a = iI b ↔ a = b := by rw [← Int32.toInt_inj, iI_toInt ha, iI_toInt hb]
theorem iI_0 : (0 : Int32) = iI 0 := rfl
theorem iI_1 : (1 : Int32) = iI 1 := rfl
theorem iI_m1 : (-1 : Int32) = iI (-1) := rfl
theorem iI_lt0 {a : Int} (ha : sm a) : iI a < 0 ↔ a < 0 := by rw [iI_0]; exact iI_lt ha (by unfold sm; omega)
theorem iI_le0 {a : Int} (ha : sm a) : iI a ≤ 0 ↔ a ≤ 0 := by rw [iI_0]; exact iI_le ha (by unfold sm; omega)
theorem iI_ge0 {a : Int} (ha : sm a) : 0 ≤ iI a ↔ 0 ≤ a := by rw [iI_0]; exact iI_le (by unfold sm; omega) ha
theorem iI_gt0 {a : Int} (ha : sm a) : 0 < iI a ↔ 0 < a := by rw [iI_0]; exact iI_lt (by unfold sm; omega) ha
theorem iI_eq0 {a : Int} (ha : sm a) : iI a = 0 ↔ a = 0 := by rw [iI_0]; exact iI_eq ha (by unfold sm; omega)
theorem iI_div {a b : Int} (ha : sm a) (hb : sm b) (h : b ≠ -1) : iI a / iI b = iI (a.tdiv b) := by
  apply Int32.toInt_inj.mp
  have hb1 : iI b ≠ -1 := by
    intro e
    rw [iI_m1, iI_eq hb (by unfold sm; omega)] at e
    exact h e
  have h1 : (a.tdiv b).natAbs ≤ a.natAbs := by rw [Int.natAbs_tdiv]; exact Nat.div_le_self _ _
  have h2 : sm (a.tdiv b) := by
    by_cases c : a = -2147483648
    · by_cases c0 : b = 0
      · subst c0; simp [sm]
      · by_cases c1 : b = 1
        · subst c1; subst c; unfold sm; decide
        · have h3 : (a.tdiv b).natAbs ≤ a.natAbs / 2 := by
            rw [Int.natAbs_tdiv]
            exact Nat.div_le_div_left (by omega) (by omega)
          subst c
          unfold sm
          omega
    · unfold sm at *
      omega
  rw [Int32.toInt_div_of_ne_right _ _ hb1, iI_toInt ha, iI_toInt hb, iI_toInt h2]
theorem iI_rem {a b : Int} (ha : sm a) (hb : sm b) (h : b ≠ -1) : iI a - iI a / iI b * iI b = iI (a.tmod b) := by
  rw [iI_div ha hb h, iI_mul, iI_sub]
  congr 1
  have := Int.mul_tdiv_add_tmod a b
  have e : a.tdiv b * b = b * a.tdiv b := Int.mul_comm _ _
  omega
theorem vp_ok {n k : Nat} (h : k < n) (hn : n < 2147483648) : ¬ (nI k < 0 ∨ n ≤ (nI k).toNatClampNeg) := nI_in h hn
theorem rd_n {α : Type} {f : Nat → Int32} {n j : Nat} {k : Int32 → Option α} (h : j < n) (hn : n < 2147483648) : rd f n (nI j) k = k (f j) := by
  unfold rd
  rw [if_neg (vp_ok h hn), nI_clamp (by omega)]
theorem ck_n {α : Type} {n j : Nat} {k : Option α} (h : j < n) (hn : n < 2147483648) : ck n (nI j) k = k := by
  unfold ck
  rw [if_neg (vp_ok h hn)]
theorem rd_9 {α : Type} {f : Nat → Int32} {j : Nat} {k : Int32 → Option α} (h : j < 9) : rd f 9 (nI j) k = k (f j) := rd_n h (by omega)
theorem rd_36 {α : Type} {f : Nat → Int32} {j : Nat} {k : Int32 → Option α} (h : j < 36) : rd f 36 (nI j) k = k (f j) := rd_n h (by omega)
theorem rd_46 {α : Type} {f : Nat → Int32} {j : Nat} {k : Int32 → Option α} (h : j < 46) : rd f 46 (nI j) k = k (f j) := rd_n h (by omega)
theorem rd_512 {α : Type} {f : Nat → Int32} {j : Nat} {k : Int32 → Option α} (h : j < 512) : rd f 512 (nI j) k = k (f j) := rd_n h (by omega)
theorem rd_15 {α : Type} {f : Nat → Int32} {j : Nat} {k : Int32 → Option α} (h : j < 15) : rd f 15 (nI j) k = k (f j) := rd_n h (by omega)
theorem rd_6 {α : Type} {f : Nat → Int32} {j : Nat} {k : Int32 → Option α} (h : j < 6) : rd f 6 (nI j) k = k (f j) := rd_n h (by omega)
theorem ck_9 {α : Type} {j : Nat} {k : Option α} (h : j < 9) : ck 9 (nI j) k = k := ck_n h (by omega)
theorem ck_36 {α : Type} {j : Nat} {k : Option α} (h : j < 36) : ck 36 (nI j) k = k := ck_n h (by omega)
theorem ck_46 {α : Type} {j : Nat} {k : Option α} (h : j < 46) : ck 46 (nI j) k = k := ck_n h (by omega)
theorem ck_512 {α : Type} {j : Nat} {k : Option α} (h : j < 512) : ck 512 (nI j) k = k := ck_n h (by omega)
theorem ck_15 {α : Type} {j : Nat} {k : Option α} (h : j < 15) : ck 15 (nI j) k = k := ck_n h (by omega)
theorem ck_6 {α : Type} {j : Nat} {k : Option α} (h : j < 6) : ck 6 (nI j) k = k := ck_n h (by omega)
theorem bd_s {α β : Type} (y : β) (k : β → Option α) : bd (some y) k = k y := rfl
theorem bdx_r {α β : Type} (y : β) (k : β → Option (String ⊕ α)) : bdx (some (.inr y)) k = k y := rfl
theorem bdx_l {α β : Type} (y : String) (k : β → Option (String ⊕ α)) : bdx (some (.inl y)) k = some (.inl y) := rfl
theorem bdc_r {α β : Type} (y : β) (ke : String → Option α) (k : β → Option α) : bdc (some (.inr y)) ke k = k y := rfl
theorem bdc_l {α β : Type} (y : String) (ke : String → Option α) (k : β → Option α) : bdc (some (.inl y)) ke k = ke y := rfl
theorem nm_s {α β : Type} (x : β) (k : β → Option α) : nm x k = k x := rfl
theorem zo_0 {α : Type} (k : Option α) : zo 0 k = k := rfl
theorem zo_1 {α : Type} (k : Option α) : zo 1 k = k := rfl
theorem nz_s {α : Type} {y : Int32} (k : Option α) (h : ¬ y = 0) : nz y k = k := by unfold nz; rw [if_neg h]
theorem up_s (f : Nat → Int32) (k : Nat) (x : Int32) : upd f k x k = x := pk_us
theorem up_n {f : Nat → Int32} {k j : Nat} {x : Int32} (h : j ≠ k) : upd f k x j = f j := pk_un h
theorem nI_m1 (n : Nat) (h : 0 < n) : nI n - 1 = nI (n - 1) := by
  obtain ⟨m, rfl⟩ : ∃ m, n = m + 1 := ⟨n - 1, by omega⟩
  exact nI_pred m
/-- a truth as 1 or 0 -/
def b01 (b : Bool) : Int32 := if b then 1 else 0
theorem b01_eq0 (b : Bool) : (b01 b = 0) ↔ b = false := by cases b <;> decide
theorem zo_b {α : Type} (b : Bool) (k : Option α) : zo (b01 b) k = k := by cases b <;> rfl
def sg (z : Int) : Int := if 0 < z then 1 else if z < 0 then -1 else 0
end MB
/-! ===== LINES as ints ===== -/
section ML
def LD (n : Nat) (A B C : Nat → Int) (la lb lc : Nat → Int32) : Prop := ∀ j, j < n → la j = iI (A j) ∧ lb j = iI (B j) ∧ lc j = iI (C j)
def LR (n : Nat) (A B C : Nat → Int) : Prop := n ≤ 9 ∧ ∀ j, j < n → (A j).natAbs ≤ 9 ∧ (B j).natAbs ≤ 9 ∧ (C j).natAbs ≤ 9 ∧ ¬ (A j = 0 ∧ B j = 0)
def same (a b c a' b' c' : Int) : Prop := a * b' = b * a' ∧ a * c' = c * a' ∧ b * c' = c * b'
def LU (n : Nat) (A B C : Nat → Int) : Prop := ∀ i j, i < n → j < n → same (A i) (B i) (C i) (A j) (B j) (C j) → i = j
theorem mb {x y : Int} {p q : Nat} (hx : x.natAbs ≤ p) (hy : y.natAbs ≤ q) : (x * y).natAbs ≤ p * q := by rw [Int.natAbs_mul]; exact Nat.mul_le_mul hx hy
theorem sm_of {x : Int} {p : Nat} (h : x.natAbs ≤ p) (hp : p ≤ 2147483647 := by omega) : sm x := by unfold sm; omega
def ht (A B C : Nat → Int) (k : Nat) (x y d : Int) : Int := A k * x + B k * y - C k * d
def cr (A B : Nat → Int) (i j : Nat) : Int := A i * B j - A j * B i
variable {n : Nat} {A B C : Nat → Int} {la lb lc : Nat → Int32}
theorem m_bit (N : Nat) {k : Nat} (h : k < 31) : fX4_bit N (nI k) = some (nI (2 ^ k)) := by
  rw [fX4_bit.eq_1]
  have g : ∀ k : Nat, k < 31 → (1 : Int32) <<< (nI k &&& 31) = nI (2 ^ k) := by decide +kernel
  rw [g k h]
theorem m_shl {k : Nat} (h : k < 31) : (1 : Int32) <<< (nI k &&& 31) = nI (2 ^ k) := by
  have g : ∀ k : Nat, k < 31 → (1 : Int32) <<< (nI k &&& 31) = nI (2 ^ k) := by decide +kernel
  exact g k h
theorem nI_and (a b : Nat) : nI a &&& nI b = nI (a &&& b) := by
  apply Int32.toBitVec.inj
  show BitVec.ofNat 32 a &&& BitVec.ofNat 32 b = BitVec.ofNat 32 (a &&& b)
  apply BitVec.eq_of_toNat_eq
  simp only [BitVec.toNat_and, BitVec.toNat_ofNat]
  apply Nat.eq_of_testBit_eq
  intro i
  simp only [Nat.testBit_and, Nat.testBit_mod_two_pow]
  cases decide (i < 32) <;> simp
theorem nI_or (a b : Nat) : nI a ||| nI b = nI (a ||| b) := by
  apply Int32.toBitVec.inj
  show BitVec.ofNat 32 a ||| BitVec.ofNat 32 b = BitVec.ofNat 32 (a ||| b)
  apply BitVec.eq_of_toNat_eq
  simp only [BitVec.toNat_or, BitVec.toNat_ofNat]
  apply Nat.eq_of_testBit_eq
  intro i
  simp only [Nat.testBit_or, Nat.testBit_mod_two_pow]
  cases decide (i < 32) <;> simp
theorem nI_xor (a b : Nat) : nI a ^^^ nI b = nI (a ^^^ b) := by
  apply Int32.toBitVec.inj
  show BitVec.ofNat 32 a ^^^ BitVec.ofNat 32 b = BitVec.ofNat 32 (a ^^^ b)
  apply BitVec.eq_of_toNat_eq
  simp only [BitVec.toNat_xor, BitVec.toNat_ofNat]
  apply Nat.eq_of_testBit_eq
  intro i
  simp only [Nat.testBit_xor, Nat.testBit_mod_two_pow]
  cases decide (i < 32) <;> simp
theorem and_pow (s k : Nat) : s &&& 2 ^ k = 0 ↔ s.testBit k = false := by
  constructor
  · intro h
    have : (s &&& 2 ^ k).testBit k = false := by rw [h]; exact Nat.zero_testBit k
    rw [Nat.testBit_and, Nat.testBit_two_pow_self, Bool.and_true] at this
    exact this
  · intro h
    apply Nat.eq_of_testBit_eq
    intro i
    rw [Nat.testBit_and, Nat.zero_testBit, Nat.testBit_two_pow]
    by_cases e : k = i
    · subst e; simp [h]
    · simp [e]
theorem m_isIn (N : Nat) {s k : Nat} (hs : s < 2147483648) (h : k < 31) : fX4_isIn N (nI s) (nI k) = some (b01 (s.testBit k)) := by
  rw [fX4_isIn.eq_1, m_bit N h, bd_s, nI_and]
  have e : (nI (s &&& 2 ^ k) = 0) ↔ s.testBit k = false := by
    rw [← and_pow, show (0 : Int32) = nI 0 from rfl, nI_eq (Nat.lt_of_le_of_lt Nat.and_le_left hs) (by omega)]
  by_cases c : s.testBit k = false
  · rw [if_pos (e.mpr c), zo_0, c]; rfl
  · rw [if_neg (fun z => c (e.mp z)), zo_1, (Bool.not_eq_false _).mp c]; rfl
theorem m_shr {s k : Nat} (hs : s < 512) (h : k < 9) : ((nI s >>> (nI k &&& 31)) &&& 1 = 1) ↔ s.testBit k = true := by
  have g : ∀ s : Nat, s < 512 → ∀ k : Nat, k < 9 → (((nI s >>> (nI k &&& 31)) &&& 1 = 1) ↔ s.testBit k = true) := by decide +kernel
  exact g s hs k h
theorem m_height (hD : LD n A B C la lb lc) (hn : n ≤ 9) (N : Nat) {k : Nat} (hk : k < n) (x y d : Int) : fX1_height N la lb lc (nI k) (iI x) (iI y) (iI d) = some (iI (ht A B C k x y d)) := by
  obtain ⟨h1, h2, h3⟩ := hD k hk
  rw [fX1_height.eq_1, rd_9 (by omega), rd_9 (by omega), rd_9 (by omega), h1, h2, h3, iI_mul, iI_mul, iI_mul, iI_add, iI_sub]
  rfl
theorem m_crossD (hD : LD n A B C la lb lc) (hn : n ≤ 9) (N : Nat) {i j : Nat} (hi : i < n) (hj : j < n) : fX1_crossD N la lb (nI i) (nI j) = some (iI (cr A B i j)) := by
  rw [fX1_crossD.eq_1, rd_9 (by omega), rd_9 (by omega), rd_9 (by omega), rd_9 (by omega), (hD i hi).1, (hD i hi).2.1, (hD j hj).1, (hD j hj).2.1, iI_mul, iI_mul, iI_sub]
  rfl
theorem m_crossX (hD : LD n A B C la lb lc) (hn : n ≤ 9) (N : Nat) {i j : Nat} (hi : i < n) (hj : j < n) : fX1_crossX N lb lc (nI i) (nI j) = some (iI (cr C B i j)) := by
  rw [fX1_crossX.eq_1, rd_9 (by omega), rd_9 (by omega), rd_9 (by omega), rd_9 (by omega), (hD i hi).2.2, (hD i hi).2.1, (hD j hj).2.2, (hD j hj).2.1, iI_mul, iI_mul, iI_sub]
  rfl
theorem m_crossY (hD : LD n A B C la lb lc) (hn : n ≤ 9) (N : Nat) {i j : Nat} (hi : i < n) (hj : j < n) : fX1_crossY N la lc (nI i) (nI j) = some (iI (cr A C i j)) := by
  rw [fX1_crossY.eq_1, rd_9 (by omega), rd_9 (by omega), rd_9 (by omega), rd_9 (by omega), (hD i hi).1, (hD i hi).2.2, (hD j hj).1, (hD j hj).2.2, iI_mul, iI_mul, iI_sub]
  rfl
/-- a step of numberOf's search -/
theorem m_nb_step (hD : LD n A B C la lb lc) (hR : LR n A B C) (N f : Nat) {j : Nat} (hj : j < n) {a b c : Int} (ha : a.natAbs ≤ 100000) (hb : b.natAbs ≤ 100000) (hc : c.natAbs ≤ 100000) :
    (same (A j) (B j) (C j) a b c → fX1_numberOf_b3 N la lb lc (nI n) (iI a) (iI b) (iI c) (f + 1) (nI j) = some (nI j)) ∧
    (¬ same (A j) (B j) (C j) a b c → fX1_numberOf_b3 N la lb lc (nI n) (iI a) (iI b) (iI c) (f + 1) (nI j) = fX1_numberOf_b3 N la lb lc (nI n) (iI a) (iI b) (iI c) f (nI (j + 1))) := by
  obtain ⟨h1, h2, h3⟩ := hD j hj
  obtain ⟨hn, hr⟩ := hR
  obtain ⟨r1, r2, r3, -⟩ := hr j hj
  have b1 := sm_of (mb r1 hb); have b2 := sm_of (mb r2 ha); have b3 := sm_of (mb r1 hc)
  have b4 := sm_of (mb r3 ha); have b5 := sm_of (mb r2 hc); have b6 := sm_of (mb r3 hb)
  rw [fX1_numberOf_b3.eq_2, if_neg (by rw [nI_leI (by omega) (by omega)]; omega), rd_9 (by omega), rd_9 (by omega), rd_9 (by omega), rd_9 (by omega), rd_9 (by omega), rd_9 (by omega), h1, h2, h3, iI_mul, iI_mul, iI_mul, iI_mul, iI_mul, iI_mul, nI_1]
  have g1 := iI_eq b1 b2; have g2 := iI_eq b3 b4; have g3 := iI_eq b5 b6
  unfold same
  constructor
  · rintro ⟨e1, e2, e3⟩
    rw [if_pos (g1.mpr e1), if_pos (g2.mpr e2), if_pos (g3.mpr e3)]
  · intro h
    by_cases e1 : A j * b = B j * a
    · by_cases e2 : A j * c = C j * a
      · by_cases e3 : B j * c = C j * b
        · exact absurd ⟨e1, e2, e3⟩ h
        · rw [if_pos (g1.mpr e1), if_pos (g2.mpr e2), if_neg (fun z => e3 (g3.mp z))]
      · rw [if_pos (g1.mpr e1), if_neg (fun z => e2 (g2.mp z))]
    · rw [if_neg (fun z => e1 (g1.mp z))]
theorem m_nb_none (hD : LD n A B C la lb lc) (hR : LR n A B C) (N : Nat) {a b c : Int} (ha : a.natAbs ≤ 100000) (hb : b.natAbs ≤ 100000) (hc : c.natAbs ≤ 100000) :
    ∀ (f j : Nat), j ≤ n → n < f + j → (∀ i, j ≤ i → i < n → ¬ same (A i) (B i) (C i) a b c) → fX1_numberOf_b3 N la lb lc (nI n) (iI a) (iI b) (iI c) f (nI j) = some (-1) := by
  intro f
  induction f with
  | zero => intro j h1 h2; omega
  | succ f ih =>
    intro j h1 h2 hno
    have hn := hR.1
    by_cases e : j = n
    · subst e
      rw [fX1_numberOf_b3.eq_2, if_pos (by rw [nI_leI (by omega) (by omega)]; omega)]
    · rw [(m_nb_step hD hR N f (by omega) ha hb hc).2 (hno j (Nat.le_refl j) (by omega))]
      exact ih (j + 1) (by omega) (by omega) (fun i h3 h4 => hno i (by omega) h4)
theorem m_nb_some (hD : LD n A B C la lb lc) (hR : LR n A B C) (N : Nat) {a b c : Int} (ha : a.natAbs ≤ 100000) (hb : b.natAbs ≤ 100000) (hc : c.natAbs ≤ 100000) {k : Nat} (hk : k < n) (hs : same (A k) (B k) (C k) a b c) :
    ∀ (f j : Nat), j ≤ k → n < f + j → (∀ i, j ≤ i → i < k → ¬ same (A i) (B i) (C i) a b c) → fX1_numberOf_b3 N la lb lc (nI n) (iI a) (iI b) (iI c) f (nI j) = some (nI k) := by
  intro f
  induction f with
  | zero => intro j h1 h2; omega
  | succ f ih =>
    intro j h1 h2 hno
    by_cases e : j = k
    · subst e
      exact (m_nb_step hD hR N f hk ha hb hc).1 hs
    · rw [(m_nb_step hD hR N f (by omega) ha hb hc).2 (hno j (Nat.le_refl j) (by omega))]
      exact ih (j + 1) (by omega) (by omega) (fun i h3 h4 => hno i (by omega) h4)
theorem m_numberOf_none (hD : LD n A B C la lb lc) (hR : LR n A B C) {N : Nat} (hN : 70000 ≤ N) {a b c : Int} (ha : a.natAbs ≤ 100000) (hb : b.natAbs ≤ 100000) (hc : c.natAbs ≤ 100000) (hno : ∀ i, i < n → ¬ same (A i) (B i) (C i) a b c) : fX1_numberOf N la lb lc (nI n) (iI a) (iI b) (iI c) = some (-1) := by
  have hn := hR.1
  rw [fX1_numberOf.eq_1]
  exact m_nb_none hD hR N ha hb hc N 0 (Nat.zero_le n) (by omega) (fun i _ h => hno i h)
theorem m_numberOf_some (hD : LD n A B C la lb lc) (hR : LR n A B C) {N : Nat} (hN : 70000 ≤ N) {a b c : Int} (ha : a.natAbs ≤ 100000) (hb : b.natAbs ≤ 100000) (hc : c.natAbs ≤ 100000) {k : Nat} (hk : k < n) (hs : same (A k) (B k) (C k) a b c) (hno : ∀ i, i < k → ¬ same (A i) (B i) (C i) a b c) : fX1_numberOf N la lb lc (nI n) (iI a) (iI b) (iI c) = some (nI k) := by
  have hn := hR.1
  rw [fX1_numberOf.eq_1]
  exact m_nb_some hD hR N ha hb hc hk hs N 0 (Nat.zero_le k) (by omega) (fun i _ h => hno i h)
end ML

