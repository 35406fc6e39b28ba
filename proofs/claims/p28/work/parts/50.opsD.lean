/-! ===== isKaleidoscope, pairs, pair ===== -/
section OD
variable {n : Nat} {A B C : Nat → Int} {la lb lc da db dc : Nat → Int32} {N : Nat} {K : Nat} {X Y D : Nat → Int} {mx my md mt : Nat → Int32}
/-! pairs -/
noncomputable def lowP (A B C : Nat → Int) (K : Nat) (X Y D : Nat → Int) (i j : Nat) : Bool := bP (∃ m, m < K ∧ ht A B C i (X m) (Y m) (D m) = 0 ∧ ht A B C j (X m) (Y m) (D m) = 0 ∧ ∀ l, l < i → ht A B C l (X m) (Y m) (D m) ≠ 0)
theorem one_meet (hU : LU n A B C) (hM : MSp n A B C K X Y D) {i j m m' : Nat} (hi : i < n) (hj : j < n) (hij : i ≠ j) (hm : m < K) (hm' : m' < K) (h1 : ht A B C i (X m) (Y m) (D m) = 0) (h2 : ht A B C j (X m) (Y m) (D m) = 0) (h3 : ht A B C i (X m') (Y m') (D m') = 0) (h4 : ht A B C j (X m') (Y m') (D m') = 0) : m = m' := by
  apply Classical.byContradiction
  intro c
  obtain ⟨c1, -, -⟩ := two_on hU hi hj hij (hM.1 m hm).1.1 h1 h2
  exact RowQ_ne hM hm hm' c (at_eq3 ⟨hi, hj, c1, h1, h2⟩ ⟨hi, hj, c1, h3, h4⟩)
theorem low_bits2 (hn : n ≤ 9) {l : Nat} (hl : l < n) (x y d : Int) : (nI (thrS n A B C x y d) &&& ((1 <<< (nI l &&& 31)) - 1) = 0) ↔ ∀ j, j < l → ht A B C j x y d ≠ 0 := by
  rw [low_bits hn (thrS_lt hn _ _ _) hl]
  constructor
  · intro z j hj w
    have := z j hj
    have h4 : (thrS n A B C x y d).testBit j = true := by rw [thrS_t]; exact ⟨by omega, w⟩
    rw [h4] at this
    cases this
  · intro z j hj
    apply Bool.eq_false_iff.mpr
    intro w
    rw [thrS_t] at w
    exact z j hj w.2
theorem c_lowP (hU : LU n A B C) (hn : n ≤ 9) (hN : 70000 ≤ N) (hM : MSp n A B C K X Y D) (hT : Tp K (fun j => thrS n A B C (X j) (Y j) (D j)) mt) (hK : K ≤ 36) {i j : Nat} (hi : i < n) (hj : j < n) (hij : i ≠ j) : fX2_isLowestPair N mt (nI K) (nI i) (nI j) = some (b01 (lowP A B C K X Y D i j)) := by
  rw [fX2_isLowestPair.eq_1]
  have hon : ∀ m, m < K → ∀ l, l < n → fX2_isOn N mt (nI m) (nI l) = some (b01 (decide (ht A B C l (X m) (Y m) (D m) = 0))) := fun m hm l hl => c_isOn N hn hT hK hm hl
  rcases loop_find (fun f m => fX2_isLowestPair_b2 N mt (nI K) (nI i) (nI j) (fun (x3_346 : Int32) => rd mt 36 x3_346 (fun v_347 => bd (fX4_bit N (nI i)) (fun u_348 => if (v_347 &&& (u_348 - 1)) = 0 then zo 1 (some 1) else zo 0 (some 0)))) f (nI m)) (fun m => ht A B C i (X m) (Y m) (D m) = 0 ∧ ht A B C j (X m) (Y m) (D m) = 0) (fun m => rd mt 36 (nI m) (fun v_347 => bd (fX4_bit N (nI i)) (fun u_348 => if (v_347 &&& (u_348 - 1)) = 0 then zo 1 (some 1) else zo 0 (some 0)))) (some 0) K
    (fun f => by rw [fX2_isLowestPair_b2.eq_2, if_pos (nI_le' (by omega) (Nat.le_refl K)), zo_0])
    (fun f m hm h => by rw [fX2_isLowestPair_b2.eq_2, if_neg (nI_nle' (by omega) hm), hon m hm i hi, bd_s, decide_eq_true h.1, if_neg b01t, hon m hm j hj, bd_s, decide_eq_true h.2, if_neg b01t])
    (fun f m hm h => by
      rw [fX2_isLowestPair_b2.eq_2, if_neg (nI_nle' (by omega) hm), hon m hm i hi, bd_s, nI_1]
      by_cases c : ht A B C i (X m) (Y m) (D m) = 0
      · rw [decide_eq_true c, if_neg b01t, hon m hm j hj, bd_s, decide_eq_false (fun z => h ⟨c, z⟩), if_pos b01f]
      · rw [decide_eq_false c, if_pos b01f])
    K N 0 (by omega) (by omega) with ⟨m, -, h1, h2, -, h3⟩ | ⟨h1, h2⟩
  · have hT' : mt m = nI (thrS n A B C (X m) (Y m) (D m)) := hT m h1
    rw [rd_36 (by omega), hT', m_bit N (by omega), bd_s, ← m_shl (show i < 31 by omega)] at h3
    unfold lowP
    by_cases c : ∀ l, l < i → ht A B C l (X m) (Y m) (D m) ≠ 0
    · rw [if_pos ((low_bits2 hn hi _ _ _).mpr c), zo_1] at h3
      rw [bP_t ⟨m, h1, h2.1, h2.2, c⟩]
      exact h3
    · rw [if_neg (fun z => c ((low_bits2 hn hi _ _ _).mp z)), zo_0] at h3
      rw [bP_f]
      · exact h3
      · rintro ⟨m', a1, a2, a3, a4⟩
        obtain rfl := one_meet hU hM hi hj hij h1 a1 h2.1 h2.2 a2 a3
        exact c a4
  · unfold lowP
    rw [bP_f (fun ⟨m, a1, a2, a3, _⟩ => h1 m (Nat.zero_le m) a1 ⟨a2, a3⟩)]
    exact h2
theorem rk_none {p : Nat → Bool} : ∀ {m : Nat}, (∀ i, i < m → p i = false) → rk p m = 0
  | 0, _ => rfl
  | m + 1, h => by rw [rk_f (h m (by omega)), rk_none (fun i hi => h i (by omega))]
noncomputable def pairB (A B C : Nat → Int) (K : Nat) (X Y D : Nat → Int) (i j : Nat) : Bool := decide (i < j) && lowP A B C K X Y D i j
theorem nI_a0 (v : Nat) : nI v + 0 = nI v := by rw [show (0 : Int32) = nI 0 from rfl, nI_add, Nat.add_zero]
theorem sub_one_more (x : Int32) (c : Nat) : x - nI c + (-1) = x - nI (c + 1) := by
  rw [← nI_1, Int32.sub_eq_add_neg, Int32.sub_eq_add_neg, Int32.neg_add, Int32.add_assoc, Int32.sub_eq_add_neg]
theorem sub_zero_iff (x : Int32) (c : Nat) : (x - nI c = 0) ↔ (nI c = x) := by
  constructor
  · intro h
    have : x = nI c := by
      have := congrArg (· + nI c) h
      simpa using this
    exact this.symm
  · intro h
    rw [h, Int32.sub_self]
end OD

