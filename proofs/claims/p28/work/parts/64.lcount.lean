/-! ===== EDGES, counted ===== -/
section LC
theorem ln_add (a b : Nat) : lN a + lN b = lN (a + b) := (Int64.ofNat_add a b).symm
theorem ln_sub {a b : Nat} (h : b ≤ a) : lN a - lN b = lN (a - b) := by
  have e : lN (a - b) + lN b = lN a := by rw [ln_add, Nat.sub_add_cancel h]
  rw [← e, Int64.add_sub_cancel]
def natBC (g : Nat) : Nat :=
  let x1 := g - ((g / 2 ^ 1) &&& 6148914691236517205)
  let x2 := (x1 &&& 3689348814741910323) + ((x1 / 2 ^ 2) &&& 3689348814741910323)
  let x3 := (x2 + x2 / 2 ^ 4) &&& 1085102592571150095
  let x4 := x3 + x3 / 2 ^ 8
  let x5 := x4 + x4 / 2 ^ 16
  let x6 := x5 + x5 / 2 ^ 32
  x6 &&& 127
theorem and_le_l (a b : Nat) : a &&& b ≤ a := Nat.and_le_left
theorem lBC (N : Nat) {g : Nat} (hg : g < 2 ^ 36) : fJ13_bitCount_95d88 N (lN g) = some (nI (natBC g)) := by
  have sh : ∀ n k, n < 2 ^ 60 → k < 64 → jLushr (lN n) (nI k) = lN (n / 2 ^ k) := fun n k hn hk => ln_shr (Nat.lt_trans hn (by decide)) hk
  have l1 : (g / 2 ^ 1) &&& 6148914691236517205 ≤ g := Nat.le_trans (and_le_l _ _) (Nat.div_le_self _ _)
  obtain ⟨x1, h1⟩ : ∃ x1, x1 = g - ((g / 2 ^ 1) &&& 6148914691236517205) := ⟨_, rfl⟩
  have b1 : x1 < 2 ^ 36 := by omega
  obtain ⟨x2, h2⟩ : ∃ x2, x2 = (x1 &&& 3689348814741910323) + ((x1 / 2 ^ 2) &&& 3689348814741910323) := ⟨_, rfl⟩
  have b2 : x2 < 2 ^ 37 := by
    have := and_le_l x1 3689348814741910323
    have := Nat.le_trans (and_le_l (x1 / 2 ^ 2) 3689348814741910323) (Nat.div_le_self _ _)
    omega
  obtain ⟨x3, h3⟩ : ∃ x3, x3 = (x2 + x2 / 2 ^ 4) &&& 1085102592571150095 := ⟨_, rfl⟩
  have b3 : x3 < 2 ^ 38 := by
    have := and_le_l (x2 + x2 / 2 ^ 4) 1085102592571150095
    have := Nat.div_le_self x2 (2 ^ 4)
    omega
  obtain ⟨x4, h4⟩ : ∃ x4, x4 = x3 + x3 / 2 ^ 8 := ⟨_, rfl⟩
  have b4 : x4 < 2 ^ 39 := by have := Nat.div_le_self x3 (2 ^ 8); omega
  obtain ⟨x5, h5⟩ : ∃ x5, x5 = x4 + x4 / 2 ^ 16 := ⟨_, rfl⟩
  have b5 : x5 < 2 ^ 40 := by have := Nat.div_le_self x4 (2 ^ 16); omega
  obtain ⟨x6, h6⟩ : ∃ x6, x6 = x5 + x5 / 2 ^ 32 := ⟨_, rfl⟩
  have hbc : natBC g = x6 &&& 127 := by
    rw [h6, h5, h4, h3, h2, h1]
    rfl
  rw [fJ13_bitCount_95d88.eq_1, show (1 : Int32) = nI 1 from rfl, sh g 1 (by omega) (by omega), show (6148914691236517205 : Int64) = lN 6148914691236517205 from rfl, ln_and, ln_sub l1, ← h1, nm_s,
    show (2 : Int32) = nI 2 from rfl, sh x1 2 (by omega) (by omega), show (3689348814741910323 : Int64) = lN 3689348814741910323 from rfl, ln_and, ln_and, ln_add, ← h2, nm_s,
    show (4 : Int32) = nI 4 from rfl, sh x2 4 (by omega) (by omega), ln_add, show (1085102592571150095 : Int64) = lN 1085102592571150095 from rfl, ln_and, ← h3, nm_s,
    show (8 : Int32) = nI 8 from rfl, sh x3 8 (by omega) (by omega), ln_add, ← h4, nm_s,
    show (16 : Int32) = nI 16 from rfl, sh x4 16 (by omega) (by omega), ln_add, ← h5, nm_s,
    show (32 : Int32) = nI 32 from rfl, sh x5 32 (by omega) (by omega), ln_add, ← h6, nm_s, ln_i32, show (127 : Int32) = nI 127 from rfl, nI_and, ← hbc]
def pA (i : Nat) : Nat := ([0, 0, 0, 0, 0, 1, 1, 1, 1, 2, 2, 2, 3, 3, 4] : List Nat).getD i 0
def pB (i : Nat) : Nat := ([1, 2, 3, 4, 5, 2, 3, 4, 5, 3, 4, 5, 4, 5, 5] : List Nat).getD i 0
theorem pAB : ∀ i, i < 15 → pA i < 6 ∧ pB i < 6 ∧ pA i < pB i := by decide
theorem p_ex : ∀ a, a < 6 → ∀ b, b < 6 → a < b → ∃ i, i < 15 ∧ pA i = a ∧ pB i = b := by decide
theorem p_inj : ∀ i, i < 15 → ∀ j, j < 15 → pA i = pA j → pB i = pB j → i = j := by decide
/-! byte by byte -/
theorem tb_add {d y w : Nat} (hd : d < 2 ^ w) (i : Nat) : (d + 2 ^ w * y).testBit i = if i < w then d.testBit i else y.testBit (i - w) := by
  rw [Nat.add_comm]
  exact Nat.testBit_two_pow_mul_add y hd i
theorem and_sh {d y μ M k w : Nat} (hd : d < 2 ^ w) (hk : k ≤ w) (hμ : μ < 2 ^ (w - k)) : ((d + 2 ^ w * y) / 2 ^ k) &&& (μ + 2 ^ w * M) = ((d / 2 ^ k) &&& μ) + 2 ^ w * ((y / 2 ^ k) &&& M) := by
  have hμ2 : μ < 2 ^ w := Nat.lt_of_lt_of_le hμ (Nat.pow_le_pow_right (by omega) (by omega))
  have hl : (d / 2 ^ k) &&& μ < 2 ^ w := Nat.lt_of_le_of_lt Nat.and_le_right hμ2
  apply Nat.eq_of_testBit_eq
  intro i
  rw [Nat.testBit_and, Nat.testBit_div_two_pow, tb_add hd, tb_add hμ2, tb_add hl, Nat.testBit_and, Nat.testBit_div_two_pow]
  by_cases c : i < w
  · rw [if_pos c, if_pos c]
    by_cases c2 : i + k < w
    · rw [if_pos c2]
    · have : μ.testBit i = false := Nat.testBit_lt_two_pow (Nat.lt_of_lt_of_le hμ (Nat.pow_le_pow_right (by omega) (by omega)))
      rw [this, Bool.and_false, Bool.and_false]
  · rw [if_neg c, if_neg c, if_neg (show ¬ i + k < w by omega), Nat.testBit_and, Nat.testBit_div_two_pow, show i + k - w = i - w + k by omega]
theorem stepA {d y M : Nat} (hd : d < 256) : (d + 256 * y) - (((d + 256 * y) / 2 ^ 1) &&& (85 + 256 * M)) = (d - ((d / 2 ^ 1) &&& 85)) + 256 * (y - ((y / 2 ^ 1) &&& M)) := by
  have h := and_sh (d := d) (y := y) (μ := 85) (M := M) (k := 1) (w := 8) hd (by omega) (by decide)
  rw [show (2 : Nat) ^ 8 = 256 from rfl] at h
  rw [h]
  have h1 : (d / 2 ^ 1) &&& 85 ≤ d := Nat.le_trans Nat.and_le_left (Nat.div_le_self _ _)
  have h2 : (y / 2 ^ 1) &&& M ≤ y := Nat.le_trans Nat.and_le_left (Nat.div_le_self _ _)
  omega
theorem stepB {d y M : Nat} (hd : d < 256) : ((d + 256 * y) &&& (51 + 256 * M)) + (((d + 256 * y) / 2 ^ 2) &&& (51 + 256 * M)) = ((d &&& 51) + ((d / 2 ^ 2) &&& 51)) + 256 * ((y &&& M) + ((y / 2 ^ 2) &&& M)) := by
  have h := and_sh (d := d) (y := y) (μ := 51) (M := M) (k := 2) (w := 8) hd (by omega) (by decide)
  have h0 := and_sh (d := d) (y := y) (μ := 51) (M := M) (k := 0) (w := 8) hd (by omega) (by decide)
  rw [show (2 : Nat) ^ 8 = 256 from rfl] at h h0
  rw [Nat.pow_zero, Nat.div_one, Nat.div_one, Nat.div_one] at h0
  rw [h, h0]
  omega
theorem stepC {d y M : Nat} (hd : d ≤ 68) (hy : y % 16 ≤ 4) : ((d + 256 * y) + (d + 256 * y) / 2 ^ 4) &&& (15 + 256 * M) = (d + d / 2 ^ 4) % 16 + 256 * ((y + y / 2 ^ 4) &&& M) := by
  have e : (d + 256 * y) + (d + 256 * y) / 2 ^ 4 = (d + d / 2 ^ 4 + 16 * (y % 16)) + 256 * (y + y / 2 ^ 4) := by omega
  have h0 := and_sh (d := d + d / 2 ^ 4 + 16 * (y % 16)) (y := y + y / 2 ^ 4) (μ := 15) (M := M) (k := 0) (w := 8) (by omega) (by omega) (by decide)
  rw [show (2 : Nat) ^ 8 = 256 from rfl, Nat.pow_zero, Nat.div_one, Nat.div_one, Nat.div_one] at h0
  rw [e, h0, show (15 : Nat) = 2 ^ 4 - 1 from rfl, Nat.and_two_pow_sub_one_eq_mod]
  omega
def bA (d : Nat) : Nat := d - ((d / 2 ^ 1) &&& 85)
def bB (d : Nat) : Nat := ((bA d) &&& 51) + ((bA d / 2 ^ 2) &&& 51)
def pB8 (d : Nat) : Nat := rk (fun i => d.testBit i) 8
theorem byte : ∀ d, d < 256 → bA d < 256 ∧ bB d ≤ 68 ∧ bB d % 16 ≤ 4 ∧ (bB d + bB d / 2 ^ 4) % 16 = pB8 d := by decide +kernel
theorem pB8_le (d : Nat) : pB8 d ≤ 8 := rk_le _ 8
theorem fold5 {p0 p1 p2 p3 p4 : Nat} (h0 : p0 ≤ 8) (h1 : p1 ≤ 8) (h2 : p2 ≤ 8) (h3 : p3 ≤ 8) (h4 : p4 ≤ 8) {x3 x4 x5 : Nat} (e3 : x3 = p0 + 256 * (p1 + 256 * (p2 + 256 * (p3 + 256 * (p4 + 256 * 0))))) (e4 : x4 = x3 + x3 / 2 ^ 8) (e5 : x5 = x4 + x4 / 2 ^ 16) : (x5 + x5 / 2 ^ 32) % 2 ^ 7 = p0 + p1 + p2 + p3 + p4 := by
  have d3 : x3 / 2 ^ 8 = p1 + 256 * (p2 + 256 * (p3 + 256 * p4)) := by omega
  have f4 : x4 = (p0 + p1) + 256 * ((p1 + p2) + 256 * ((p2 + p3) + 256 * ((p3 + p4) + 256 * p4))) := by omega
  have d4 : x4 / 2 ^ 16 = (p2 + p3) + 256 * ((p3 + p4) + 256 * p4) := by omega
  have f5 : x5 = (p0 + p1 + p2 + p3) + 256 * ((p1 + p2 + p3 + p4) + 256 * ((p2 + p3 + p4) + 256 * ((p3 + p4) + 256 * p4))) := by omega
  have d5 : x5 / 2 ^ 32 = p4 := by omega
  rw [d5]
  omega
theorem natBC_bytes {b0 b1 b2 b3 b4 : Nat} (h0 : b0 < 256) (h1 : b1 < 256) (h2 : b2 < 256) (h3 : b3 < 256) (h4 : b4 < 256) : natBC (b0 + 256 * (b1 + 256 * (b2 + 256 * (b3 + 256 * (b4 + 256 * 0))))) = pB8 b0 + pB8 b1 + pB8 b2 + pB8 b3 + pB8 b4 := by
  obtain ⟨a0, c0, e0, f0⟩ := byte b0 h0
  obtain ⟨a1, c1, e1, f1⟩ := byte b1 h1
  obtain ⟨a2, c2, e2, f2⟩ := byte b2 h2
  obtain ⟨a3, c3, e3, f3⟩ := byte b3 h3
  obtain ⟨a4, c4, e4, f4⟩ := byte b4 h4
  have hx1 : ∀ b : Nat, b < 256 → (b + 256 * 0) - (((b + 256 * 0) / 2 ^ 1) &&& (85 + 256 * 5592405)) = bA b + 256 * 0 := fun b hb => by
    rw [stepA hb]; unfold bA; simp
  have hx2 : ∀ b : Nat, bA b < 256 → ((bA b + 256 * 0) &&& (51 + 256 * 3355443)) + (((bA b + 256 * 0) / 2 ^ 2) &&& (51 + 256 * 3355443)) = bB b + 256 * 0 := fun b hb => by
    rw [stepB hb]; unfold bB; simp
  have hx3 : ∀ b : Nat, bB b ≤ 68 → ((bB b + 256 * 0) + (bB b + 256 * 0) / 2 ^ 4) &&& (15 + 256 * 986895) = (bB b + bB b / 2 ^ 4) % 16 + 256 * 0 := fun b hb => by
    rw [stepC hb (by omega)]; simp
  have m5 : (6148914691236517205 : Nat) = 85 + 256 * (85 + 256 * (85 + 256 * (85 + 256 * (85 + 256 * 5592405)))) := by decide
  have m3 : (3689348814741910323 : Nat) = 51 + 256 * (51 + 256 * (51 + 256 * (51 + 256 * (51 + 256 * 3355443)))) := by decide
  have mf : (1085102592571150095 : Nat) = 15 + 256 * (15 + 256 * (15 + 256 * (15 + 256 * (15 + 256 * 986895)))) := by decide
  unfold natBC
  dsimp only
  rw [m5, m3, mf, stepA h0, stepA h1, stepA h2, stepA h3, hx1 b4 h4]
  rw [show b0 - ((b0 / 2 ^ 1) &&& 85) = bA b0 from rfl, show b1 - ((b1 / 2 ^ 1) &&& 85) = bA b1 from rfl, show b2 - ((b2 / 2 ^ 1) &&& 85) = bA b2 from rfl, show b3 - ((b3 / 2 ^ 1) &&& 85) = bA b3 from rfl]
  rw [stepB a0, stepB a1, stepB a2, stepB a3, hx2 b4 a4]
  rw [show (bA b0 &&& 51) + ((bA b0 / 2 ^ 2) &&& 51) = bB b0 from rfl, show (bA b1 &&& 51) + ((bA b1 / 2 ^ 2) &&& 51) = bB b1 from rfl, show (bA b2 &&& 51) + ((bA b2 / 2 ^ 2) &&& 51) = bB b2 from rfl, show (bA b3 &&& 51) + ((bA b3 / 2 ^ 2) &&& 51) = bB b3 from rfl]
  rw [stepC c0 (by omega), stepC c1 (by omega), stepC c2 (by omega), stepC c3 (by omega), hx3 b4 c4, f0, f1, f2, f3, f4]
  have p0 := pB8_le b0
  have p1 := pB8_le b1
  have p2 := pB8_le b2
  have p3 := pB8_le b3
  have p4 := pB8_le b4
  rw [show (127 : Nat) = 2 ^ 7 - 1 from rfl, Nat.and_two_pow_sub_one_eq_mod]
  exact fold5 p0 p1 p2 p3 p4 rfl rfl rfl
theorem natBC_pop {g : Nat} (hg : g < 2 ^ 36) : natBC g = rk (fun i => g.testBit i) 36 := by
  have hb : ∀ k, (g / 2 ^ (8 * k)) % 256 < 256 := fun k => Nat.mod_lt _ (by omega)
  have e : g = (g / 2 ^ (8 * 0)) % 256 + 256 * ((g / 2 ^ (8 * 1)) % 256 + 256 * ((g / 2 ^ (8 * 2)) % 256 + 256 * ((g / 2 ^ (8 * 3)) % 256 + 256 * ((g / 2 ^ (8 * 4)) % 256 + 256 * 0)))) := by omega
  have hp : ∀ k, pB8 ((g / 2 ^ (8 * k)) % 256) = rk (fun i => g.testBit (8 * k + i)) 8 := fun k => by
    unfold pB8
    apply rk_cong
    intro i hi
    rw [show (256 : Nat) = 2 ^ 8 from rfl, Nat.testBit_mod_two_pow, Nat.testBit_div_two_pow, decide_eq_true hi, Bool.true_and, Nat.add_comm]
  have h1 := natBC_bytes (hb 0) (hb 1) (hb 2) (hb 3) (hb 4)
  rw [← e, hp, hp, hp, hp, hp] at h1
  rw [h1]
  have s1 : rk (fun i => g.testBit i) 16 = rk (fun i => g.testBit i) 8 + rk (fun s => g.testBit (8 + s)) 8 := rk_split (fun i => g.testBit i) 8 8
  have s2 : rk (fun i => g.testBit i) 24 = rk (fun i => g.testBit i) 16 + rk (fun s => g.testBit (16 + s)) 8 := rk_split (fun i => g.testBit i) 16 8
  have s3 : rk (fun i => g.testBit i) 32 = rk (fun i => g.testBit i) 24 + rk (fun s => g.testBit (24 + s)) 8 := rk_split (fun i => g.testBit i) 24 8
  have s4 : rk (fun i => g.testBit i) 40 = rk (fun i => g.testBit i) 32 + rk (fun s => g.testBit (32 + s)) 8 := rk_split (fun i => g.testBit i) 32 8
  have s5 : rk (fun i => g.testBit i) 40 = rk (fun i => g.testBit i) 36 + rk (fun s => g.testBit (36 + s)) 4 := rk_split (fun i => g.testBit i) 36 4
  have z : rk (fun s => g.testBit (36 + s)) 4 = 0 := rk_none (fun i _ => Nat.testBit_lt_two_pow (Nat.lt_of_lt_of_le hg (Nat.pow_le_pow_right (by omega) (by omega))))
  have z0 : rk (fun i => g.testBit (8 * 0 + i)) 8 = rk (fun i => g.testBit i) 8 := rk_cong (fun i _ => by rw [Nat.mul_zero, Nat.zero_add])
  rw [z0, show rk (fun i => g.testBit (8 * 1 + i)) 8 = rk (fun s => g.testBit (8 + s)) 8 from rfl, show rk (fun i => g.testBit (8 * 2 + i)) 8 = rk (fun s => g.testBit (16 + s)) 8 from rfl, show rk (fun i => g.testBit (8 * 3 + i)) 8 = rk (fun s => g.testBit (24 + s)) 8 from rfl, show rk (fun i => g.testBit (8 * 4 + i)) 8 = rk (fun s => g.testBit (32 + s)) 8 from rfl]
  omega
/-- how many EDGES -/
def cE (g : Nat) : Nat := rk (fun i => ad g (pA i) (pB i)) 15
theorem pop_cE {g : Nat} (hs : Sy g) : rk (fun i => g.testBit i) 36 = 2 * cE g := by
  have hsym : ∀ a b, a < 6 → b < 6 → g.testBit (6 * b + a) = g.testBit (6 * a + b) := by
    intro a b ha hb
    rw [Bool.eq_iff_iff]
    exact ⟨fun z => (hs.2 b a hb ha z).1, fun z => (hs.2 a b ha hb z).1⟩
  have hdia : ∀ a, a < 6 → g.testBit (6 * a + a) = false := by
    intro a ha
    apply Bool.eq_false_iff.mpr
    intro z
    exact (hs.2 a a ha ha z).2 rfl
  have d0 := hdia 0 (by omega)
  have d1 := hdia 1 (by omega)
  have d2 := hdia 2 (by omega)
  have d3 := hdia 3 (by omega)
  have d4 := hdia 4 (by omega)
  have d5 := hdia 5 (by omega)
  have s01 := hsym 0 1 (by omega) (by omega)
  have s02 := hsym 0 2 (by omega) (by omega)
  have s03 := hsym 0 3 (by omega) (by omega)
  have s04 := hsym 0 4 (by omega) (by omega)
  have s05 := hsym 0 5 (by omega) (by omega)
  have s12 := hsym 1 2 (by omega) (by omega)
  have s13 := hsym 1 3 (by omega) (by omega)
  have s14 := hsym 1 4 (by omega) (by omega)
  have s15 := hsym 1 5 (by omega) (by omega)
  have s23 := hsym 2 3 (by omega) (by omega)
  have s24 := hsym 2 4 (by omega) (by omega)
  have s25 := hsym 2 5 (by omega) (by omega)
  have s34 := hsym 3 4 (by omega) (by omega)
  have s35 := hsym 3 5 (by omega) (by omega)
  have s45 := hsym 4 5 (by omega) (by omega)
  unfold cE ad
  simp only [Nat.reduceMul, Nat.reduceAdd] at d0 d1 d2 d3 d4 d5 s01 s02 s03 s04 s05 s12 s13 s14 s15 s23 s24 s25 s34 s35 s45
  simp only [rk_s, rk_0, pA, pB, List.getD_cons_zero, List.getD_cons_succ, Nat.reduceMul, Nat.reduceAdd, d0, d1, d2, d3, d4, d5, s01, s02, s03, s04, s05, s12, s13, s14, s15, s23, s24, s25, s34, s35, s45, Nat.reduceAdd, Bool.false_eq_true, if_false]
  omega
theorem c_count (N : Nat) {g : Nat} (hs : Sy g) : fX0_count N (lN g) = some (nI (cE g)) := by
  have h15 : cE g ≤ 15 := rk_le _ 15
  rw [fX0_count.eq_1, lBC N hs.1, bd_s, natBC_pop hs.1, pop_cE hs, nz_s _ (show ¬ (2 : Int32) = 0 by decide)]
  have g : ∀ c, c ≤ 15 → nI (2 * c) / 2 = nI c := by decide
  rw [g _ h15]
end LC

