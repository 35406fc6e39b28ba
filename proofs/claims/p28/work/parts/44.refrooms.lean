/-! ===== the reference finds the ROOMS ===== -/
section RRM
variable {n : Nat} {A B C : Nat → Int} {la lb lc : Nat → Int32} {N : Nat} {K : Nat} {X Y D : Nat → Int} {x' y' d' : Nat → Int32}
abbrev FR5 : Type := Int32 × (Nat → Int32) × (Nat → Int32) × (Nat → Int32) × (Nat → Int32)
def Mr (M : Nat → Prop) (r : Nat → Int32) : Prop := ∀ s, s < 512 → (M s → r s = 1) ∧ (¬ M s → r s = 0)
theorem Mr_cong {M M' : Nat → Prop} {rn : Nat → Int32} (h : Mr M rn) (e : ∀ s, M s ↔ M' s) : Mr M' rn := by
  intro s hs
  obtain ⟨h1, h2⟩ := h s hs
  exact ⟨fun z => h1 ((e s).mpr z), fun z => h2 (fun w => z ((e s).mp w))⟩
theorem nar1 : vp_nar .boolean 1 = 1 := by decide
theorem nar0 : vp_nar .boolean 0 = 0 := by decide
theorem Mr_upd {M : Nat → Prop} {rn : Nat → Int32} (h : Mr M rn) (t : Nat) : Mr (fun s => M s ∨ s = t) (upd rn t 1) := by
  intro s hs
  by_cases e : s = t
  · subst e
    rw [up_s]
    exact ⟨fun _ => rfl, fun z => absurd (Or.inr rfl) z⟩
  · rw [up_n e]
    obtain ⟨h1, h2⟩ := h s hs
    exact ⟨fun z => h1 (z.resolve_right e), fun z => h2 (fun w => z (Or.inl w))⟩
/-- on which side one is, behind a MEET -/
def alg (A B C : Nat → Int) (x y d : Int) (by_ : Nat) (w : Int) (k : Nat) : Int := if ht A B C k x y d = 0 then w * sg (B k * A by_ - A k * B by_) else sg (ht A B C k x y d)
noncomputable def alS (n : Nat) (A B C : Nat → Int) (x y d : Int) (by_ : Nat) (w : Int) : Nat := bset (fun k => decide (k ≠ by_ ∧ 0 < alg A B C x y d by_ w k)) n
theorem alS_lt (hn : n ≤ 9) (x y d : Int) (by_ : Nat) (w : Int) : alS n A B C x y d by_ w < 512 := lt512 (bset_lt _ _) hn
theorem alS_t (x y d : Int) (by_ : Nat) (w : Int) (k : Nat) : (alS n A B C x y d by_ w).testBit k = true ↔ k < n ∧ k ≠ by_ ∧ 0 < alg A B C x y d by_ w k := by
  unfold alS
  rw [bset_test, Bool.and_eq_true, decide_eq_true_eq, decide_eq_true_eq]
theorem sg_cases (z : Int) : sg z = 1 ∨ sg z = 0 ∨ sg z = -1 := by unfold sg; (repeat' split) <;> omega
theorem alg_sm {x y d : Int} {b k : Nat} {w : Int} (hw : w = 1 ∨ w = -1) : sm (alg A B C x y d b w k) := by
  unfold alg
  split
  · rcases hw with e | e <;> rcases sg_cases (B k * A b - A k * B b) with z | z | z <;> rw [e, z] <;> unfold sm <;> decide
  · exact sm_sg _
def A2 (n : Nat) (A B C : Nat → Int) (x y d : Int) (b : Nat) (w : Int) (s : Nat) : Prop := s = alS n A B C x y d b w ∨ s = alS n A B C x y d b w ||| 2 ^ b
end RRM

