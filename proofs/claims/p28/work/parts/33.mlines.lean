/-! ===== what the class answers about LINES, and what the reference does ===== -/
section MLN
noncomputable def bP (P : Prop) : Bool := @decide P (Classical.propDecidable P)
theorem bP_t {P : Prop} (h : P) : bP P = true := by unfold bP; exact @decide_eq_true P (Classical.propDecidable P) h
theorem bP_f {P : Prop} (h : ¬ P) : bP P = false := by unfold bP; exact @decide_eq_false P (Classical.propDecidable P) h
theorem bP_iff {P : Prop} : bP P = true ↔ P := by
  by_cases h : P
  · exact ⟨fun _ => h, fun _ => bP_t h⟩
  · exact ⟨fun e => absurd (e.symm.trans (bP_f h)) (by decide), fun z => absurd z h⟩
theorem bP_cong {P Q : Prop} (h : P ↔ Q) : bP P = bP Q := by
  by_cases c : P
  · rw [bP_t c, bP_t (h.mp c)]
  · rw [bP_f c, bP_f (fun z => c (h.mpr z))]
variable {n : Nat} {A B C : Nat → Int} {la lb lc : Nat → Int32} {N : Nat}
theorem ht_sm (hR : LR n A B C) {k : Nat} (hk : k < n) {x y d : Int} (hx : x.natAbs ≤ 100000) (hy : y.natAbs ≤ 100000) (hd : d.natAbs ≤ 100000) : sm (ht A B C k x y d) := by
  obtain ⟨r1, r2, r3, -⟩ := hR.2 k hk
  have b1 := mb r1 hx; have b2 := mb r2 hy; have b3 := mb r3 hd
  unfold ht sm
  omega
theorem m_setBelow (hD : LD n A B C la lb lc) (hR : LR n A B C) (hN : 70000 ≤ N) {x y d : Int} (hx : x.natAbs ≤ 100000) (hy : y.natAbs ≤ 100000) (hd : d.natAbs ≤ 100000) : fX1_setBelow N la lb lc (nI n) (iI x) (iI y) (iI d) = some (nI (bset (fun k => decide (0 < ht A B C k x y d)) n)) := by
  have hn := hR.1
  rw [fX1_setBelow.eq_1]
  refine loop_it (fun f j (s : Nat) => fX1_setBelow_b6 N la lb lc (nI n) (iI x) (iI y) (iI d) f (nI s) (nI j)) (fun s => some (nI s)) (fun k s => if decide (0 < ht A B C k x y d) then s ||| 2 ^ k else s) n ?_ ?_ (by omega) 0
  · intro f s
    show fX1_setBelow_b6 N la lb lc (nI n) (iI x) (iI y) (iI d) (f + 1) (nI s) (nI n) = some (nI s)
    rw [fX1_setBelow_b6.eq_2, if_pos (nI_le' (by omega) (Nat.le_refl n))]
  · intro f j s hj
    have hs := ht_sm hR hj hx hy hd
    show fX1_setBelow_b6 N la lb lc (nI n) (iI x) (iI y) (iI d) (f + 1) (nI s) (nI j) = fX1_setBelow_b6 N la lb lc (nI n) (iI x) (iI y) (iI d) f (nI (if decide (0 < ht A B C j x y d) then s ||| 2 ^ j else s)) (nI (j + 1))
    rw [fX1_setBelow_b6.eq_2, if_neg (nI_nle' (by omega) hj), m_height hD hn N hj, bd_s, nI_1]
    by_cases c : 0 < ht A B C j x y d
    · rw [if_neg (by rw [iI_le0 hs]; omega), m_bit N (by omega), bd_s, nI_or, decide_eq_true c, if_pos rfl]
    · rw [if_pos (by rw [iI_le0 hs]; omega), decide_eq_false c, if_neg (by decide)]
def okd (A B : Nat → Int) (s : Nat) (dx dy : Int) (k : Nat) : Prop := if s.testBit k then 0 ≤ A k * dx + B k * dy else A k * dx + B k * dy ≤ 0
def goes (n : Nat) (A B : Nat → Int) (s : Nat) (dx dy : Int) : Prop := ∀ k, k < n → okd A B s dx dy k
theorem okd_t {A B : Nat → Int} {s k : Nat} {dx dy : Int} (h : s.testBit k = true) : okd A B s dx dy k ↔ 0 ≤ A k * dx + B k * dy := by unfold okd; rw [if_pos h]
theorem okd_f {A B : Nat → Int} {s k : Nat} {dx dy : Int} (h : s.testBit k = false) : okd A B s dx dy k ↔ A k * dx + B k * dy ≤ 0 := by unfold okd; rw [if_neg (by rw [h]; decide)]
theorem b01_f : b01 false = 0 := rfl
theorem b01_t : b01 true = 1 := rfl
theorem one_ne0 : ¬ (1 : Int32) = 0 := by decide
theorem dir_sm (hR : LR n A B C) {k : Nat} (hk : k < n) {x y : Int} (hx : x.natAbs ≤ 100000) (hy : y.natAbs ≤ 100000) : sm (A k * x + B k * y) := by
  obtain ⟨r1, r2, r3, -⟩ := hR.2 k hk
  have b1 := mb r1 hx; have b2 := mb r2 hy
  unfold sm
  omega
theorem m_staysIn (hD : LD n A B C la lb lc) (hR : LR n A B C) (hN : 70000 ≤ N) {s : Nat} (hs : s < 512) {dx dy : Int} (hx : dx.natAbs ≤ 100000) (hy : dy.natAbs ≤ 100000) : fX1_staysIn N la lb (nI n) (nI s) (iI dx) (iI dy) = some (b01 (bP (goes n A B s dx dy))) := by
  have hn := hR.1
  rw [fX1_staysIn.eq_1]
  have hstep : ∀ f j, j < n → (¬ okd A B s dx dy j → fX1_staysIn_b3 N la lb (nI n) (nI s) (iI dx) (iI dy) (zo 0 (some 0)) (f + 1) (nI j) = some 0) ∧ (okd A B s dx dy j → fX1_staysIn_b3 N la lb (nI n) (nI s) (iI dx) (iI dy) (zo 0 (some 0)) (f + 1) (nI j) = fX1_staysIn_b3 N la lb (nI n) (nI s) (iI dx) (iI dy) (zo 0 (some 0)) f (nI (j + 1))) := by
    intro f j hj
    obtain ⟨h1, h2, h3⟩ := hD j hj
    have hm := dir_sm hR hj hx hy
    rw [fX1_staysIn_b3.eq_2, if_neg (nI_nle' (by omega) hj), rd_9 (by omega), rd_9 (by omega), h1, h2, iI_mul, iI_mul, iI_add, nm_s, m_isIn N (by omega) (by omega), bd_s, nI_1]
    cases ht' : s.testBit j
    · rw [okd_f ht', b01_f, if_pos rfl]
      constructor
      · intro h
        rw [if_neg (by rw [iI_le0 hm]; exact h), zo_0]
      · intro h
        rw [if_pos (by rw [iI_le0 hm]; exact h)]
    · rw [okd_t ht', b01_t, if_neg one_ne0]
      constructor
      · intro h
        rw [if_neg (by rw [iI_ge0 hm]; exact h), zo_0]
      · intro h
        rw [if_pos (by rw [iI_ge0 hm]; exact h)]
  rcases loop_find (fun f j => fX1_staysIn_b3 N la lb (nI n) (nI s) (iI dx) (iI dy) (zo 0 (some 0)) f (nI j)) (fun j => ¬ okd A B s dx dy j) (fun _ => some 0) (some 1) n (fun f => by
      show fX1_staysIn_b3 N la lb (nI n) (nI s) (iI dx) (iI dy) (zo 0 (some 0)) (f + 1) (nI n) = some 1
      rw [fX1_staysIn_b3.eq_2, if_pos (nI_le' (by omega) (Nat.le_refl n)), zo_1]) (fun f j hj h => (hstep f j hj).1 h) (fun f j hj h => (hstep f j hj).2 (Classical.not_not.mp h)) n N 0 (by omega) (by omega) with ⟨i, -, h1, h2, -, h3⟩ | ⟨h1, h2⟩
  · rw [bP_f (fun g => h2 (g i h1))]
    exact h3
  · rw [bP_t (show goes n A B s dx dy from fun k hk => Classical.not_not.mp (h1 k (by omega) hk))]
    exact h2
end MLN

