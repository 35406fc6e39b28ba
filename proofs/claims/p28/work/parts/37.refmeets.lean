/-! ===== the reference finds the MEETS ===== -/
section RFM
def tri : Nat → Nat
  | 0 => 0
  | i + 1 => tri i + i
theorem tri_lt : ∀ i, i < 9 → ∀ j, j < i → tri i + j < 36 := by decide
theorem tri_le : ∀ i, i < 10 → tri i ≤ 36 := by decide
def QR (i j a b : Nat) : Prop := b < a ∧ (a < i ∨ (a = i ∧ b < j))
theorem RowQ_cong {Q Q' : Nat → Nat → Prop} {n : Nat} {A B C : Nat → Int} {k : Nat} {X Y D : Nat → Int} (h : RowQ Q n A B C k X Y D) (e : ∀ a b, Q a b ↔ Q' a b) : RowQ Q' n A B C k X Y D := by
  refine ⟨fun j hj => ?_, h.2.1, fun a b hq => h.2.2 a b ((e a b).mpr hq)⟩
  obtain ⟨hr, a, b, hq, hat⟩ := h.1 j hj
  exact ⟨hr, a, b, (e a b).mp hq, hat⟩
theorem RowQ_0 {Q : Nat → Nat → Prop} {n : Nat} {A B C : Nat → Int} (X Y D : Nat → Int) (h : ∀ a b, a < n → b < n → ¬ Q a b) : RowQ Q n A B C 0 X Y D := ⟨fun j hj => absurd hj (Nat.not_lt_zero j), fun i j _ hj => absurd hj (Nat.not_lt_zero j), fun a b hq h1 h2 _ => absurd hq (h a b h1 h2)⟩
abbrev MS3 : Type := Nat × (Nat → Int) × (Nat → Int) × (Nat → Int) × (Nat → Int32) × (Nat → Int32) × (Nat → Int32)
variable {n : Nat} {A B C : Nat → Int} {la lb lc : Nat → Int32} {N : Nat}
theorem nat_mul_sgn {g : Nat} {z : Int} (h : z ≠ 0) : (g : Int) * sgn1 z ≠ 0 ↔ g ≠ 0 := by
  unfold sgn1
  split <;> omega
theorem div_ex {u v s : Int} {g : Nat} (hg : 0 < g) (hg2 : g ≤ 162) (hs : s = 1 ∨ s = -1) (hu : u = (g : Int) * (s * v)) (hb : u.natAbs ≤ 162) : iI u / iI ((g : Int) * s) = iI v := by
  have hsm : sm ((g : Int) * s) := by rcases hs with z | z <;> rw [z] <;> unfold sm <;> omega
  rw [iI_div' (by omega) hsm]
  congr 1
  have hne : (g : Int) * s ≠ 0 := by rcases hs with z | z <;> rw [z] <;> omega
  rw [hu, ← Int.mul_assoc]
  exact Int.mul_tdiv_cancel_left _ hne
theorem sgn1_or (z : Int) : sgn1 z = 1 ∨ sgn1 z = -1 := by unfold sgn1; split <;> simp
/-- all crossings -/
abbrev MSp (n : Nat) (A B C : Nat → Int) (k : Nat) (X Y D : Nat → Int) : Prop := RowQ (fun _ _ => True) n A B C k X Y D
theorem cr_self (A B : Nat → Int) (i : Nat) : cr A B i i = 0 := by unfold cr; omega
theorem RowQ_all {Q : Nat → Nat → Prop} {n : Nat} {A B C : Nat → Int} {k : Nat} {X Y D : Nat → Int} (h : RowQ Q n A B C k X Y D) (e : ∀ a b, a < n → b < n → a ≠ b → Q a b ∨ Q b a) : MSp n A B C k X Y D := by
  refine ⟨fun j hj => ?_, h.2.1, fun a b _ h1 h2 h3 => ?_⟩
  · obtain ⟨hr, a, b, hq, hat⟩ := h.1 j hj
    exact ⟨hr, a, b, trivial, hat⟩
  · by_cases c : a = b
    · subst c; exact absurd (cr_self A B a) h3
    · rcases e a b h1 h2 c with q | q
      · exact h.2.2 a b q h1 h2 h3
      · obtain ⟨j, hj, hat⟩ := h.2.2 b a q h2 h1 (by
          intro z
          apply h3
          unfold cr at z ⊢
          have := Int.mul_comm (A a) (B b)
          have := Int.mul_comm (A b) (B a)
          omega)
        exact ⟨j, hj, at_sym hat⟩
end RFM

