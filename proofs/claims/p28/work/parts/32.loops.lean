/-! ===== loops in general ===== -/
section LG
def itf {σ : Type} (g : Nat → σ → σ) : Nat → Nat → σ → σ
  | _, 0, s => s
  | j, m + 1, s => itf g (j + 1) m (g j s)
theorem itf_0 {σ : Type} (g : Nat → σ → σ) (j : Nat) (s : σ) : itf g j 0 s = s := rfl
theorem itf_s {σ : Type} (g : Nat → σ → σ) (j m : Nat) (s : σ) : itf g j (m + 1) s = itf g (j + 1) m (g j s) := rfl
theorem itf_last {σ : Type} (g : Nat → σ → σ) : ∀ (m j : Nat) (s : σ), itf g j (m + 1) s = g (j + m) (itf g j m s)
  | 0, j, s => rfl
  | m + 1, j, s => by
    rw [itf_s, itf_last g m (j + 1) (g j s), itf_s]
    congr 1
    omega
theorem itf_cong {σ : Type} {g h : Nat → σ → σ} : ∀ (m j : Nat) (s : σ), (∀ i s, j ≤ i → i < j + m → g i s = h i s) → itf g j m s = itf h j m s
  | 0, _, _, _ => rfl
  | m + 1, j, s, e => by
    rw [itf_s, itf_s, e j s (Nat.le_refl j) (by omega)]
    exact itf_cong m (j + 1) _ (fun i s h1 h2 => e i s (by omega) (by omega))
theorem loop_gen {σ ρ : Type} (F : Nat → Nat → σ → Option ρ) (K : σ → Option ρ) (g : Nat → σ → σ) (n : Nat) (P : Nat → σ → Prop)
    (hexit : ∀ f s, P n s → F (f + 1) n s = K s) (hstep : ∀ f j s, j < n → P j s → F (f + 1) j s = F f (j + 1) (g j s) ∧ P (j + 1) (g j s)) :
    ∀ m f j s, j + m = n → m < f → P j s → F f j s = K (itf g j m s) ∧ P n (itf g j m s) := by
  intro m
  induction m with
  | zero =>
    intro f j s hj hf hp
    obtain ⟨f', rfl⟩ : ∃ f', f = f' + 1 := ⟨f - 1, by omega⟩
    obtain rfl : j = n := by omega
    exact ⟨hexit f' s hp, hp⟩
  | succ m ih =>
    intro f j s hj hf hp
    obtain ⟨f', rfl⟩ : ∃ f', f = f' + 1 := ⟨f - 1, by omega⟩
    obtain ⟨e, hp'⟩ := hstep f' j s (by omega) hp
    obtain ⟨e2, hp2⟩ := ih f' (j + 1) (g j s) (by omega) (by omega) hp'
    exact ⟨by rw [e, e2, itf_s], hp2⟩
/-- a loop without a condition on its state -/
theorem loop_it {σ ρ : Type} (F : Nat → Nat → σ → Option ρ) (K : σ → Option ρ) (g : Nat → σ → σ) (n : Nat)
    (hexit : ∀ f s, F (f + 1) n s = K s) (hstep : ∀ f j s, j < n → F (f + 1) j s = F f (j + 1) (g j s)) {f : Nat} (hf : n < f) (s : σ) : F f 0 s = K (itf g 0 n s) :=
  (loop_gen F K g n (fun _ _ => True) (fun f s _ => hexit f s) (fun f j s h _ => ⟨hstep f j s h, trivial⟩) n f 0 s (by omega) hf trivial).1
theorem loop_itP {σ ρ : Type} (F : Nat → Nat → σ → Option ρ) (K : σ → Option ρ) (g : Nat → σ → σ) (n : Nat) (P : Nat → σ → Prop)
    (hexit : ∀ f s, P n s → F (f + 1) n s = K s) (hstep : ∀ f j s, j < n → P j s → F (f + 1) j s = F f (j + 1) (g j s) ∧ P (j + 1) (g j s)) {f : Nat} (hf : n < f) (s : σ) (h0 : P 0 s) : F f 0 s = K (itf g 0 n s) ∧ P n (itf g 0 n s) :=
  loop_gen F K g n P hexit hstep n f 0 s (by omega) hf h0
/-- a loop that may answer at once -/
theorem loop_find {ρ : Type} (F : Nat → Nat → ρ) (p : Nat → Prop) (v : Nat → ρ) (e : ρ) (n : Nat)
    (hexit : ∀ f, F (f + 1) n = e) (hyes : ∀ f j, j < n → p j → F (f + 1) j = v j) (hno : ∀ f j, j < n → ¬ p j → F (f + 1) j = F f (j + 1)) :
    ∀ m f j, j + m = n → m < f → (∃ i, j ≤ i ∧ i < n ∧ p i ∧ (∀ k, j ≤ k → k < i → ¬ p k) ∧ F f j = v i) ∨ ((∀ i, j ≤ i → i < n → ¬ p i) ∧ F f j = e) := by
  intro m
  induction m with
  | zero =>
    intro f j hj hf
    obtain ⟨f', rfl⟩ : ∃ f', f = f' + 1 := ⟨f - 1, by omega⟩
    obtain rfl : j = n := by omega
    exact Or.inr ⟨fun i h1 h2 => by omega, hexit f'⟩
  | succ m ih =>
    intro f j hj hf
    obtain ⟨f', rfl⟩ : ∃ f', f = f' + 1 := ⟨f - 1, by omega⟩
    by_cases c : p j
    · exact Or.inl ⟨j, Nat.le_refl j, by omega, c, fun k h1 h2 => by omega, hyes f' j (by omega) c⟩
    · rcases ih f' (j + 1) (by omega) (by omega) with ⟨i, h1, h2, h3, h4, h5⟩ | ⟨h1, h2⟩
      · refine Or.inl ⟨i, by omega, h2, h3, fun k k1 k2 => ?_, by rw [hno f' j (by omega) c, h5]⟩
        by_cases e2 : k = j
        · subst e2; exact c
        · exact h4 k (by omega) k2
      · refine Or.inr ⟨fun i k1 k2 => ?_, by rw [hno f' j (by omega) c, h2]⟩
        by_cases e2 : i = j
        · subst e2; exact c
        · exact h1 i (by omega) k2
theorem nI_le' {a b : Nat} (h : b < 2147483648) (h2 : a ≤ b) : nI a ≤ nI b := nI_le h2 h
theorem nI_nle' {a b : Nat} (h : b < 2147483648) (h2 : a < b) : ¬ nI b ≤ nI a := nI_ge h2 h
/-- a set of places, as a number -/
def bset (p : Nat → Bool) (n : Nat) : Nat := itf (fun k s => if p k then s ||| 2 ^ k else s) 0 n 0
theorem bset_succ (p : Nat → Bool) (n : Nat) : bset p (n + 1) = if p n then bset p n ||| 2 ^ n else bset p n := by
  unfold bset
  rw [itf_last, Nat.zero_add]
theorem bset_test (p : Nat → Bool) : ∀ n k, (bset p n).testBit k = (decide (k < n) && p k)
  | 0, k => by rw [show bset p 0 = 0 from rfl, Nat.zero_testBit]; simp
  | n + 1, k => by
    rw [bset_succ]
    have ih := bset_test p n k
    by_cases e : k = n
    · subst e
      have h1 : decide (k < k) = false := decide_eq_false (by omega)
      have h2 : decide (k < k + 1) = true := decide_eq_true (by omega)
      rw [h1, Bool.false_and] at ih
      rw [h2, Bool.true_and]
      by_cases c : p k = true
      · rw [if_pos c, Nat.testBit_or, ih, Nat.testBit_two_pow_self, c]; rfl
      · rw [if_neg c, ih, Bool.eq_false_iff.mpr c]
    · have h1 : decide (k < n + 1) = decide (k < n) := decide_eq_decide.mpr (by omega)
      rw [h1]
      by_cases c : p n = true
      · rw [if_pos c, Nat.testBit_or, ih, Nat.testBit_two_pow, (decide_eq_false (fun z => e z.symm) : decide (n = k) = false), Bool.or_false]
      · rw [if_neg c, ih]
theorem bset_lt (p : Nat → Bool) (n : Nat) : bset p n < 2 ^ n := by
  apply Nat.lt_pow_two_of_testBit
  intro i hi
  rw [bset_test]
  have : ¬ i < n := by omega
  simp [this]
theorem bset_cong {p q : Nat → Bool} {n : Nat} (h : ∀ k, k < n → p k = q k) : bset p n = bset q n := by
  apply Nat.eq_of_testBit_eq
  intro i
  rw [bset_test, bset_test]
  by_cases c : i < n
  · simp [c, h i c]
  · simp [c]
theorem lt512 {x n : Nat} (h : x < 2 ^ n) (hn : n ≤ 9) : x < 512 := Nat.lt_of_lt_of_le h (by have := Nat.pow_le_pow_right (n := 2) (by omega) hn; omega)
end LG

