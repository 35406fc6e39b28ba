/-! ===== points, reflected, isKaleidoscope, pairs, pair ===== -/
section OB
variable {n : Nat} {A B C : Nat → Int} {la lb lc da db dc : Nat → Int32} {N : Nat} {K : Nat} {X Y D : Nat → Int} {mx my md mt : Nat → Int32}
noncomputable def over (n : Nat) (A B C : Nat → Int) (p x y : Nat) : Bool := bP (∃ k, k < n ∧ (ht A B C k x y 1).tmod p = 0)
theorem ht_sm2 (hR : LR n A B C) {k : Nat} (hk : k < n) {x y : Nat} (hx : x ≤ 100) (hy : y ≤ 100) : sm (ht A B C k x y 1) := ht_sm hR hk (by omega) (by omega) (by omega)
noncomputable def frees (n : Nat) (A B C : Nat → Int) (p x : Nat) : Nat := rk (fun y => !over n A B C p x y) p
end OB

