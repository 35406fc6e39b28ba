/-! ===== room, roomOf, corner, project, best ===== -/
section OF
variable {n : Nat} {A B C : Nat → Int} {la lb lc da db dc : Nat → Int32} {N : Nat} {K : Nat} {X Y D : Nat → Int} {mx my md mt mv rs rn : Nat → Int32} {x' y' d' r' : Nat → Int32} {rk_ : Int32}
noncomputable def corN (n : Nat) (A B C : Nat → Int) (X Y D : Nat → Int) (s m : Nat) : Bool := corB n A B C s (X m) (Y m) (D m)
theorem c_corners (hn : n ≤ 9) (hN : 70000 ≤ N) (hT : Tp K (fun j => thrS n A B C (X j) (Y j) (D j)) mt) (hV : Tp K (fun j => abvS n A B C (X j) (Y j) (D j)) mv) (hK : K ≤ 36) {s : Nat} (hs : s < 512) (hsn : s < 2 ^ n) : fX2_cornersOf N mt mv (nI K) (nI s) = some (nI (rk (corN n A B C X Y D s) K)) := by
  rw [fX2_cornersOf.eq_1]
  exact loop_u (fun f j => fX2_cornersOf_b4 N mt mv (nI K) (nI s) f (nI (rk (corN n A B C X Y D s) j)) (nI j)) _ K
    (fun f => by rw [fX2_cornersOf_b4.eq_2, if_pos (nI_le' (by omega) (Nat.le_refl K))])
    (fun f j hj => by
      rw [fX2_cornersOf_b4.eq_2, if_neg (nI_nle' (by omega) hj), c_isCorner hn hT hV hK N hj hs hsn, bd_s, nI_1, nI_1]
      rcases hc : corB n A B C s (X j) (Y j) (D j) with _ | _
      · rw [if_pos b01f, rk_f (show corN n A B C X Y D s j = false from hc)]
      · rw [if_neg b01t, rk_t (show corN n A B C X Y D s j = true from hc)]) K N 0 (by omega) (by omega)
/-! project -/
theorem prj_real (hM : MSp n A B C K X Y D) {m s : Nat} (hm : m < K) (h : Real n A B C s) : Real n A B C (prj n A B C s (X m) (Y m) (D m)) := by
  obtain ⟨x, y, d, ⟨hd, ho⟩, rfl⟩ := h
  obtain ⟨hr, -⟩ := hM.1 m hm
  have hev : Ev (fun T => ∀ j, j < n → (0 < ht A B C j (X m) (Y m) (D m) → 0 < (T : Int) * ht A B C j (X m) (Y m) (D m) + 1 * ht A B C j x y d) ∧ (ht A B C j (X m) (Y m) (D m) < 0 → (T : Int) * ht A B C j (X m) (Y m) (D m) + 1 * ht A B C j x y d < 0)) := by
    refine Ev.all n (fun j hj => ?_)
    rcases Int.lt_trichotomy (ht A B C j (X m) (Y m) (D m)) 0 with c | c | c
    · exact (ev_lin_neg (b := 1 * ht A B C j x y d) c).mono (fun T hT => ⟨fun z => by omega, fun _ => hT⟩)
    · exact Ev.tr (fun T => ⟨fun z => by omega, fun z => by omega⟩)
    · exact (ev_lin_pos (b := 1 * ht A B C j x y d) c).mono (fun T hT => ⟨fun _ => hT, fun z => by omega⟩)
  obtain ⟨T, hT, hT2⟩ := hev.ex
  refine ⟨(T : Int) * X m + 1 * x, (T : Int) * Y m + 1 * y, (T : Int) * D m + 1 * d, ⟨?_, fun l hl => ?_⟩, ?_⟩
  · have := Int.mul_pos (show 0 < (T : Int) by omega) hr.1
    omega
  · rw [ht_comb]
    have h1 := ho l hl
    have h2 := hT2 l hl
    rcases Int.lt_trichotomy (ht A B C l (X m) (Y m) (D m)) 0 with c | c | c
    · have := h2.2 c; omega
    · rw [c]; simp; exact h1
    · have := h2.1 c; omega
  · apply Nat.eq_of_testBit_eq
    intro l
    rw [Bool.eq_iff_iff, prj_t, abvS_t, abvS_t, ht_comb]
    constructor
    · rintro ⟨hl, z⟩
      refine ⟨hl, ?_⟩
      rcases z with ⟨⟨-, z1⟩, z2⟩ | z
      · rw [z2]; simp; exact z1
      · exact (hT2 l hl).1 z
    · rintro ⟨hl, z⟩
      refine ⟨hl, ?_⟩
      have h2 := hT2 l hl
      rcases Int.lt_trichotomy (ht A B C l (X m) (Y m) (D m)) 0 with c | c | c
      · have := h2.2 c; omega
      · rw [c] at z
        simp at z
        exact Or.inl ⟨⟨hl, z⟩, c⟩
      · exact Or.inr c
theorem prj_b {s : Nat} (x y d : Int) : prj n A B C s x y d = bset (fun k => decide (0 < ht A B C k x y d ∨ (ht A B C k x y d = 0 ∧ s.testBit k = true))) n := by
  apply Nat.eq_of_testBit_eq
  intro l
  rw [Bool.eq_iff_iff, prj_t, bset_test, Bool.and_eq_true, decide_eq_true_eq, decide_eq_true_eq]
  constructor
  · rintro ⟨h1, ⟨h2, h3⟩ | h2⟩
    · exact ⟨h1, Or.inr ⟨h3, h2⟩⟩
    · exact ⟨h1, Or.inl h2⟩
  · rintro ⟨h1, h2 | ⟨h2, h3⟩⟩
    · exact ⟨h1, Or.inr h2⟩
    · exact ⟨h1, Or.inl ⟨h3, h2⟩⟩
end OF

