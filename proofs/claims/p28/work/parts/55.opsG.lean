/-! ===== galleries, gallery ===== -/
section OG
variable {n : Nat} {A B C : Nat → Int} {la lb lc da db dc : Nat → Int32} {N : Nat} {K : Nat} {X Y D : Nat → Int} {mx my md mt mv rs rn rw_ : Nat → Int32} {x' y' d' r' : Nat → Int32} {rk_ : Int32}
abbrev FG8 : Type := Int32 × Int32 × (Nat → Int32) × (Nat → Int32) × (Nat → Int32) × (Nat → Int32) × (Nat → Int32) × Int32
theorem sub_refl (c : Nat) : sub c c := fun _ h => h
theorem xor_ab (a b : Nat) : b ^^^ (a ^^^ b) = a := by rw [Nat.xor_comm, xor_cc]
/-! the first gallery -/
def okS (p : Nat → Bool) (a b l : Nat) : Prop := (a ^^^ b).testBit l = true ∧ p (a ^^^ 2 ^ l) = true
theorem c_step {p : Nat → Bool} (hN : 70000 ≤ N) (hRN : ∀ s, s < 512 → rn s = if p s then nI (rk p s) else -1) {a b l : Nat} (ha : a < 512) (hb : b < 512) (hl : l < 9) (hok : okS p a b l) (hlow : ∀ k, k < l → ¬ okS p a b k) : fX3_stepTowards N rn (nI a) (nI b) = some (nI (a ^^^ 2 ^ l)) := by
  have hx : a ^^^ b < 512 := Nat.xor_lt_two_pow (n := 9) ha hb
  rw [fX3_stepTowards.eq_1]
  have hst : ∀ f k, k < 9 → (okS p a b k → fX3_stepTowards_b2 N rn (nI a) (nI b) (fun (x3_495 : Int32) => bd (fX4_bit N x3_495) (fun u_496 => some ((nI a ^^^ u_496)))) (f + 1) (nI k) = some (nI (a ^^^ 2 ^ k))) ∧ (¬ okS p a b k → fX3_stepTowards_b2 N rn (nI a) (nI b) (fun (x3_495 : Int32) => bd (fX4_bit N x3_495) (fun u_496 => some ((nI a ^^^ u_496)))) (f + 1) (nI k) = fX3_stepTowards_b2 N rn (nI a) (nI b) (fun (x3_495 : Int32) => bd (fX4_bit N x3_495) (fun u_496 => some ((nI a ^^^ u_496)))) f (nI (k + 1))) := by
    intro f k hk
    have hxk := xor_lt ha hk
    rw [fX3_stepTowards_b2.eq_2, if_neg (show ¬ (9 : Int32) ≤ nI k by rw [le9 (by omega)]; omega), nI_xor, m_isIn N (by omega) (by omega), bd_s, nI_1]
    unfold okS
    rcases hb' : (a ^^^ b).testBit k with _ | _
    · rw [if_pos b01f]
      exact ⟨fun z => absurd z.1 (by decide), fun _ => rfl⟩
    · rw [if_neg b01t, m_bit N (by omega), bd_s, nI_xor, rd_512 hxk, hRN _ hxk]
      rcases hp : p (a ^^^ 2 ^ k) with _ | _
      · rw [if_neg (show ¬ false = true by decide), if_pos (show (-1 : Int32) = -1 from rfl)]
        exact ⟨fun z => absurd z.2 (by decide), fun _ => rfl⟩
      · have := rk_le p (a ^^^ 2 ^ k)
        rw [if_pos (show true = true from rfl), if_neg (nI_ne_m1 (by omega)), bd_s, nI_xor]
        exact ⟨fun _ => rfl, fun z => absurd ⟨rfl, rfl⟩ z⟩
  rcases loop_find (fun f k => fX3_stepTowards_b2 N rn (nI a) (nI b) (fun (x3_495 : Int32) => bd (fX4_bit N x3_495) (fun u_496 => some ((nI a ^^^ u_496)))) f (nI k)) (okS p a b) (fun k => some (nI (a ^^^ 2 ^ k))) (some (nI a)) 9
    (fun f => by rw [fX3_stepTowards_b2.eq_2, if_pos (by decide)])
    (fun f k hk h => (hst f k hk).1 h) (fun f k hk h => (hst f k hk).2 h)
    9 N 0 (by omega) (by omega) with ⟨k, -, h1, h2, h3, h4⟩ | ⟨h1, h2⟩
  · have : k = l := by
      rcases Nat.lt_trichotomy k l with z | z | z
      · exact absurd h2 (hlow k z)
      · exact z
      · exact absurd hok (h3 l (Nat.zero_le l) z)
    subst this
    exact h4
  · exact absurd hok (h1 l (Nat.zero_le l) hl)
def nxR (p : Nat → Bool) (a b n j : Nat) (x : Int32) : Prop := (x = -1 ∧ ∀ l, j ≤ l → l < n → ¬ okS p a b l) ∨ (∃ l, j ≤ l ∧ l < n ∧ okS p a b l ∧ x = nI l ∧ ∀ l', j ≤ l' → l' < l → ¬ okS p a b l')
theorem le_int {x : Int32} {i : Nat} (h : i ≤ 1000000) : (x ≤ nI i) ↔ x.toInt ≤ i := by
  rw [Int32.le_iff_toInt_le, ← iI_nI, iI_toInt (sm_n (by omega))]
theorem lt_int {x : Int32} {i : Nat} (h : i ≤ 1000000) : (nI i < x) ↔ (i : Int) < x.toInt := by
  rw [Int32.lt_iff_toInt_lt, ← iI_nI, iI_toInt (sm_n (by omega))]
end OG

