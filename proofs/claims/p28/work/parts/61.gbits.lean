/-! ===== the graph as one number ===== -/
section GB
theorem ln_tb (n : Nat) : (lN n).toBitVec = BitVec.ofNat 64 n := rfl
theorem ln_inj {a b : Int64} (h : a.toBitVec = b.toBitVec) : a = b := Int64.toBitVec_inj.mp h
theorem ln_and (a b : Nat) : lN a &&& lN b = lN (a &&& b) := by
  apply ln_inj
  rw [Int64.toBitVec_and, ln_tb, ln_tb, ln_tb]
  apply BitVec.eq_of_toNat_eq
  simp only [BitVec.toNat_and, BitVec.toNat_ofNat]
  apply Nat.eq_of_testBit_eq
  intro i
  simp only [Nat.testBit_and, Nat.testBit_mod_two_pow]
  cases decide (i < 64) <;> simp
theorem ln_or (a b : Nat) : lN a ||| lN b = lN (a ||| b) := by
  apply ln_inj
  rw [Int64.toBitVec_or, ln_tb, ln_tb, ln_tb]
  apply BitVec.eq_of_toNat_eq
  simp only [BitVec.toNat_or, BitVec.toNat_ofNat]
  apply Nat.eq_of_testBit_eq
  intro i
  simp only [Nat.testBit_or, Nat.testBit_mod_two_pow]
  cases decide (i < 64) <;> simp
theorem ln_xor (a b : Nat) : lN a ^^^ lN b = lN (a ^^^ b) := by
  apply ln_inj
  rw [Int64.toBitVec_xor, ln_tb, ln_tb, ln_tb]
  apply BitVec.eq_of_toNat_eq
  simp only [BitVec.toNat_xor, BitVec.toNat_ofNat]
  apply Nat.eq_of_testBit_eq
  intro i
  simp only [Nat.testBit_xor, Nat.testBit_mod_two_pow]
  cases decide (i < 64) <;> simp
theorem ln_m1 : (-1 : Int64) = lN 18446744073709551615 := by decide
theorem ln_c : ∀ k, k < 64 → ((nI k).toInt64 &&& 63) = lN k := by decide +kernel
theorem ln_cu : ∀ k, k < 64 → ((nI k).toInt64.toUInt64 &&& Int64.toUInt64 63) = UInt64.ofNat k := by decide +kernel
theorem ln_sm : ∀ k, k < 64 → (BitVec.ofNat 64 k).smod 64 = BitVec.ofNat 64 k := by decide +kernel
theorem ln_shr {n k : Nat} (hn : n < 2 ^ 64) (hk : k < 64) : jLushr (lN n) (nI k) = lN (n / 2 ^ k) := by
  unfold jLushr
  rw [ln_cu k hk]
  apply ln_inj
  apply BitVec.eq_of_toNat_eq
  show ((lN n).toUInt64 >>> UInt64.ofNat k).toNat = (BitVec.ofNat 64 _).toNat
  have h1 : (UInt64.ofNat k).toNat = k := by
    show (BitVec.ofNat 64 k).toNat = k
    rw [BitVec.toNat_ofNat, Nat.mod_eq_of_lt (by omega)]
  have h2 : (lN n).toUInt64.toNat = n := by
    show (BitVec.ofNat 64 n).toNat = n
    rw [BitVec.toNat_ofNat, Nat.mod_eq_of_lt hn]
  rw [UInt64.toNat_shiftRight, h1, h2, Nat.mod_eq_of_lt hk, Nat.shiftRight_eq_div_pow, BitVec.toNat_ofNat, Nat.mod_eq_of_lt (Nat.lt_of_le_of_lt (Nat.div_le_self _ _) hn)]
theorem ln_shl (n : Nat) {k : Nat} (hk : k < 64) : jLshl (lN n) (nI k) = lN (n * 2 ^ k) := by
  unfold jLshl
  rw [ln_c k hk]
  apply ln_inj
  rw [Int64.toBitVec_shiftLeft, ln_tb, ln_tb, ln_tb, ln_sm k hk]
  apply BitVec.eq_of_toNat_eq
  rw [BitVec.shiftLeft_eq', BitVec.toNat_shiftLeft, BitVec.toNat_ofNat, BitVec.toNat_ofNat, BitVec.toNat_ofNat, Nat.mod_eq_of_lt (show k < 2 ^ 64 by omega), Nat.shiftLeft_eq, Nat.mul_mod, Nat.mod_mod, ← Nat.mul_mod]
theorem ln_i32 (n : Nat) : (lN n).toInt32 = nI n := by
  show (Int64.ofNat n).toInt32 = Int32.ofNat n
  rw [← Int64.ofInt_eq_ofNat, Int64.toInt32_ofInt, Int32.ofInt_eq_ofNat]
theorem ln_nI {k : Nat} (h : k < 2147483648) : (nI k).toInt64 = lN k := by
  rw [← iI_nI, Int32.toInt64_ofInt (by rw [show Int32.minValue.toInt = -2147483648 from by decide]; omega) (by rw [show Int32.maxValue.toInt = 2147483647 from by decide]; omega)]
  exact Int64.ofInt_eq_ofNat
theorem ln_eq0 {n : Nat} (h : n < 2 ^ 64) : lN n = 0 ↔ n = 0 := by
  constructor
  · intro e
    have := congrArg (fun z => z.toBitVec.toNat) e
    simp only [ln_tb, BitVec.toNat_ofNat, Nat.mod_eq_of_lt h] at this
    exact this
  · intro e; subst e; rfl
theorem lg0 {n : Nat} (h : n < 2 ^ 63) : lg_cmp (lN n) 0 = 0 ↔ n = 0 := by
  unfold lg_cmp
  rw [← ln_eq0 (n := n) (by omega)]
  by_cases c : lN n = 0
  · rw [c]; decide
  · have e1 : (if lN n = 0 then (0 : Int32) else -1) = -1 := if_neg c
    rw [e1]
    constructor
    · intro z
      split at z
      · exact absurd z (by decide)
      · exact absurd z (by decide)
    · intro z; exact absurd z c
/-- two DOTS beside each other -/
def ad (g a b : Nat) : Bool := g.testBit (6 * a + b)
def tieN (a b : Nat) : Nat := 2 ^ (6 * a + b) ||| 2 ^ (6 * b + a)
theorem p36 {a b : Nat} (ha : a < 6) (hb : b < 6) : 2 ^ (6 * a + b) < 2 ^ 36 := Nat.pow_lt_pow_right (by omega) (by omega)
theorem tie_lt {a b : Nat} (ha : a < 6) (hb : b < 6) : tieN a b < 2 ^ 36 := Nat.or_lt_two_pow (p36 ha hb) (p36 hb ha)
theorem tie_t {a b x y : Nat} (ha : a < 6) (hb : b < 6) (hx : x < 6) (hy : y < 6) : ad (tieN a b) x y = true ↔ (x = a ∧ y = b) ∨ (x = b ∧ y = a) := by
  unfold ad tieN
  rw [Nat.testBit_or, Nat.testBit_two_pow, Nat.testBit_two_pow, Bool.or_eq_true, decide_eq_true_eq, decide_eq_true_eq]
  omega
theorem ad_ext {g h : Nat} (hg : g < 2 ^ 36) (hh : h < 2 ^ 36) (e : ∀ a b, a < 6 → b < 6 → ad g a b = ad h a b) : g = h := by
  apply Nat.eq_of_testBit_eq
  intro i
  by_cases c : i < 36
  · have := e (i / 6) (i % 6) (by omega) (by omega)
    unfold ad at this
    rw [show 6 * (i / 6) + i % 6 = i by omega] at this
    exact this
  · rw [Nat.testBit_lt_two_pow (Nat.lt_of_lt_of_le hg (Nat.pow_le_pow_right (by omega) (by omega))), Nat.testBit_lt_two_pow (Nat.lt_of_lt_of_le hh (Nat.pow_le_pow_right (by omega) (by omega)))]
theorem ad_xor (g t a b : Nat) : ad (g ^^^ t) a b = (ad g a b ^^ ad t a b) := Nat.testBit_xor _ _ _
theorem ad_or (g t a b : Nat) : ad (g ||| t) a b = (ad g a b || ad t a b) := Nat.testBit_or _ _ _
theorem ad_and (g t a b : Nat) : ad (g &&& t) a b = (ad g a b && ad t a b) := Nat.testBit_and _ _ _
theorem ad_not {t a b : Nat} (ha : a < 6) (hb : b < 6) : ad (t ^^^ 18446744073709551615) a b = !ad t a b := by
  rw [ad_xor]
  have g : ∀ a, a < 6 → ∀ b, b < 6 → ad 18446744073709551615 a b = true := by decide
  rw [g a ha b hb]
  cases ad t a b <;> rfl
def rowN (g d : Nat) : Nat := g / 2 ^ (6 * d) % 64
theorem rowN_lt (g d : Nat) : rowN g d < 64 := Nat.mod_lt _ (by omega)
theorem rowN_t (g d k : Nat) : (rowN g d).testBit k = (decide (k < 6) && ad g d k) := by
  unfold rowN ad
  rw [show (64 : Nat) = 2 ^ 6 from rfl, Nat.testBit_mod_two_pow, Nat.testBit_div_two_pow]
  rw [Nat.add_comm]
theorem six_mul : ∀ d, d < 6 → 6 * nI d = nI (6 * d) := by decide
theorem six_add : ∀ d, d < 6 → ∀ e, e < 6 → 6 * nI d + nI e = nI (6 * d + e) := by decide
theorem c_row (N : Nat) {g d : Nat} (hg : g < 2 ^ 36) (hd : d < 6) : fX0_row N (lN g) (nI d) = some (nI (rowN g d)) := by
  rw [fX0_row.eq_1, six_mul d hd, ln_shr (Nat.lt_trans hg (by decide)) (by omega), ln_i32, show (63 : Int32) = nI (2 ^ 6 - 1) from rfl, nI_and, Nat.and_two_pow_sub_one_eq_mod]
  rfl
theorem c_sign (N : Nat) {a b : Nat} (ha : a < 6) (hb : b < 6) : fX0_sign N (nI a) (nI b) = some (lN (2 ^ (6 * a + b))) := by
  rw [fX0_sign.eq_1, six_add a ha b hb, show (1 : Int64) = lN 1 from rfl, ln_shl 1 (by omega), Nat.one_mul]
theorem c_tie (N : Nat) {a b : Nat} (ha : a < 6) (hb : b < 6) : fX0_tie N (nI a) (nI b) = some (lN (tieN a b)) := by
  rw [fX0_tie.eq_1, c_sign N ha hb, bd_s, c_sign N hb ha, bd_s, ln_or]
  rfl
/-- without an EDGE -/
def cutN (g a b : Nat) : Nat := g &&& (tieN a b ^^^ 18446744073709551615)
theorem cut_lt {g : Nat} (hg : g < 2 ^ 36) (a b : Nat) : cutN g a b < 2 ^ 36 := Nat.lt_of_le_of_lt Nat.and_le_left hg
theorem cut_t {g a b x y : Nat} (ha : a < 6) (hb : b < 6) (hx : x < 6) (hy : y < 6) : ad (cutN g a b) x y = true ↔ ad g x y = true ∧ ¬ ((x = a ∧ y = b) ∨ (x = b ∧ y = a)) := by
  unfold cutN
  rw [ad_and, ad_not hx hy, Bool.and_eq_true, Bool.not_eq_true', Bool.eq_false_iff, Ne, tie_t ha hb hx hy]
theorem c_cut (g a b : Nat) : lN g &&& (lN (tieN a b) ^^^ -1) = lN (cutN g a b) := by
  rw [ln_m1, ln_xor, ln_and]
  rfl
/-- each EDGE stands there twice, none from a DOT to itself -/
def Sy (g : Nat) : Prop := g < 2 ^ 36 ∧ ∀ a b, a < 6 → b < 6 → ad g a b = true → ad g b a = true ∧ a ≠ b
theorem Sy_cut {g : Nat} (h : Sy g) {a b : Nat} (ha : a < 6) (hb : b < 6) : Sy (cutN g a b) := by
  refine ⟨cut_lt h.1 a b, fun x y hx hy hxy => ?_⟩
  rw [cut_t ha hb hx hy] at hxy
  obtain ⟨h1, h2⟩ := h.2 x y hx hy hxy.1
  refine ⟨?_, h2⟩
  rw [cut_t ha hb hy hx]
  exact ⟨h1, by have := hxy.2; omega⟩
/-- an EDGE, if there is one -/
theorem c_first {g : Nat} (h : Sy g) (h0 : g ≠ 0) {N : Nat} (hN : 70000 ≤ N) : ∃ u v, u < 6 ∧ v < 6 ∧ ad g u v = true ∧ fX0_firstWithEdge N (lN g) = some (nI u) ∧ fX0_firstIn N (nI (rowN g u)) = some (nI v) := by
  have hex : ∃ a, a < 6 ∧ rowN g a ≠ 0 := by
    apply Classical.byContradiction
    intro hno
    apply h0
    apply ad_ext h.1 (by omega)
    intro a b ha hb
    have : rowN g a = 0 := by
      apply Classical.byContradiction
      intro z; exact hno ⟨a, ha, z⟩
    have h2 := rowN_t g a b
    rw [this, Nat.zero_testBit, decide_eq_true hb, Bool.true_and] at h2
    rw [← h2]
    unfold ad
    rw [Nat.zero_testBit]
  obtain ⟨u, hu, hru, hmin⟩ := min_ex 6 hex
  have hfw : fX0_firstWithEdge N (lN g) = some (nI u) := by
    rw [fX0_firstWithEdge.eq_1]
    rcases loop_find (fun f j => fX0_firstWithEdge_b2 N (lN g) f (nI j)) (fun j => rowN g j ≠ 0) (fun j => some (nI j)) (some (nI 5)) 5
      (fun f => by rw [fX0_firstWithEdge_b2.eq_2, if_pos (by decide)])
      (fun f j hj hz => by
        have := rowN_lt g j
        rw [fX0_firstWithEdge_b2.eq_2, if_neg (show ¬ (5 : Int32) ≤ nI j from nI_nle' (b := 5) (by omega) hj), c_row N h.1 (by omega), bd_s, if_neg (by rw [z_nI, nI_eq (by omega) (by omega)]; exact hz)])
      (fun f j hj hz => by
        have hz' : rowN g j = 0 := Classical.not_not.mp hz
        rw [fX0_firstWithEdge_b2.eq_2, if_neg (show ¬ (5 : Int32) ≤ nI j from nI_nle' (b := 5) (by omega) hj), c_row N h.1 (by omega), bd_s, if_pos (by rw [hz']; rfl), nI_1])
      5 N 0 (by omega) (by omega) with ⟨k, -, h1, h2, h3, h4⟩ | ⟨h1, h2⟩
    · have : k = u := by
        rcases Nat.lt_trichotomy k u with z | z | z
        · exact absurd h2 (hmin k z)
        · exact z
        · exact absurd hru (h3 u (Nat.zero_le u) z)
      subst this
      exact h4
    · have : u = 5 := by
        rcases Nat.lt_or_ge u 5 with z | z
        · exact absurd hru (h1 u (Nat.zero_le u) z)
        · omega
      subst this
      exact h2
  have hex2 : ∃ b, b < 6 ∧ (rowN g u).testBit b = true := by
    apply Classical.byContradiction
    intro hno
    apply hru
    apply Nat.eq_of_testBit_eq
    intro i
    rw [Nat.zero_testBit]
    apply Bool.eq_false_iff.mpr
    intro z
    have z2 := z
    rw [rowN_t, Bool.and_eq_true, decide_eq_true_eq] at z2
    exact hno ⟨i, z2.1, z⟩
  obtain ⟨v, hv, hbv, hminv⟩ := min_ex 6 hex2
  refine ⟨u, v, hu, hv, ?_, hfw, ?_⟩
  · rw [rowN_t, Bool.and_eq_true] at hbv
    exact hbv.2
  · have hlt := rowN_lt g u
    rw [fX0_firstIn.eq_1]
    rcases loop_find (fun f j => fX0_firstIn_b2 N (nI (rowN g u)) f (nI j)) (fun j => (rowN g u).testBit j = true) (fun j => some (nI j)) (some (nI 5)) 5
      (fun f => by rw [fX0_firstIn_b2.eq_2, if_pos (by decide)])
      (fun f j hj hz => by
        rw [fX0_firstIn_b2.eq_2, if_neg (show ¬ (5 : Int32) ≤ nI j from nI_nle' (b := 5) (by omega) hj), m_isIn N (by omega) (by omega), bd_s, hz, if_neg b01t])
      (fun f j hj hz => by
        rw [fX0_firstIn_b2.eq_2, if_neg (show ¬ (5 : Int32) ≤ nI j from nI_nle' (b := 5) (by omega) hj), m_isIn N (by omega) (by omega), bd_s, Bool.eq_false_iff.mpr hz, if_pos b01f, nI_1])
      5 N 0 (by omega) (by omega) with ⟨k, -, h1, h2, h3, h4⟩ | ⟨h1, h2⟩
    · have : k = v := by
        rcases Nat.lt_trichotomy k v with z | z | z
        · exact absurd h2 (hminv k z)
        · exact z
        · exact absurd hbv (h3 v (Nat.zero_le v) z)
      subst this
      exact h4
    · have : v = 5 := by
        rcases Nat.lt_or_ge v 5 with z | z
        · exact absurd hbv (h1 v (Nat.zero_le v) z)
        · omega
      subst this
      exact h2
end GB

