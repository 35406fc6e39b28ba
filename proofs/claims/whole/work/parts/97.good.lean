theorem law_good : ∀ (L : Nat) (xs : Nat → Int32), L ≤ 2048 → ∃ N n, lawOK N L xs n 0 cInit dInit (fun _ => 0) := by
  sorry
