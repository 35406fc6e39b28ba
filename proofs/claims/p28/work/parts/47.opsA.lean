/-! ===== meets, meet, polynomial ===== -/
section OA
theorem loop_u {ρ : Type} (F : Nat → Nat → Option ρ) (R : Option ρ) (n : Nat) (hexit : ∀ f, F (f + 1) n = R) (hstep : ∀ f j, j < n → F (f + 1) j = F f (j + 1)) :
    ∀ m f j, j + m = n → m < f → F f j = R := by
  intro m
  induction m with
  | zero =>
    intro f j hj hf
    obtain ⟨f', rfl⟩ : ∃ f', f = f' + 1 := ⟨f - 1, by omega⟩
    obtain rfl : j = n := by omega
    exact hexit f'
  | succ m ih =>
    intro f j hj hf
    obtain ⟨f', rfl⟩ : ∃ f', f = f' + 1 := ⟨f - 1, by omega⟩
    rw [hstep f' j (by omega), ih f' (j + 1) (by omega) (by omega)]
def sumN (f : Nat → Nat) : Nat → Nat
  | 0 => 0
  | n + 1 => sumN f n + f n
theorem sumN_s (f : Nat → Nat) (n : Nat) : sumN f (n + 1) = sumN f n + f n := rfl
theorem sumN_cong {f g : Nat → Nat} : ∀ {n : Nat}, (∀ i, i < n → f i = g i) → sumN f n = sumN g n
  | 0, _ => rfl
  | n + 1, h => by rw [sumN_s, sumN_s, sumN_cong (fun i hi => h i (by omega)), h n (by omega)]
def sumI (f : Nat → Int) : Nat → Int
  | 0 => 0
  | n + 1 => sumI f n + f n
theorem sumI_s (f : Nat → Int) (n : Nat) : sumI f (n + 1) = sumI f n + f n := rfl
theorem pig2 {p q : Nat → Bool} {m b : Nat} {f : Nat → Nat} (h1 : ∀ s, s < m → p s = true → f s < b ∧ q (f s) = true) (h2 : ∀ s t, s < m → t < m → p s = true → p t = true → f s = f t → s = t) : rk p m ≤ rk q b :=
  pig (f := fun s => rk q (f s)) (rk q b) p (fun s hs hp => rk_lt (h1 s hs hp).1 (h1 s hs hp).2) (fun s t hs ht ps pt e => h2 s t hs ht ps pt (rk_inj (h1 s hs ps).2 (h1 t ht pt).2 e))
variable {n : Nat} {A B C : Nat → Int} {la lb lc da db dc : Nat → Int32} {N : Nat} {K : Nat} {X Y D : Nat → Int} {mx my md mt : Nat → Int32}
theorem two_ne0 : ¬ (2 : Int32) = 0 := by decide
theorem c_checkMeet_t (N : Nat) (hK : K ≤ 36) {i : Nat} (hi : i < K) : fX4_checkMeet N (nI K) (nI i) = some (.inr ()) := by
  rw [fX4_checkMeet.eq_1, if_neg (idx_lt0 hi (by omega)), fX2_count.eq_1, bd_s, if_pos (idx_ltK hi (by omega))]
theorem c_checkMeet_f (N : Nat) {x : Int32} (h : bad x K) : fX4_checkMeet N (nI K) x = some (.inl xIOO) := by
  rw [fX4_checkMeet.eq_1]
  by_cases c : x < 0
  · rw [if_pos c]
  · rw [if_neg c, fX2_count.eq_1, bd_s, if_neg (bad_K h c)]
/-- the sum of what the MEETS have too much -/
noncomputable def surp (n : Nat) (A B C : Nat → Int) (X Y D : Nat → Int) (K : Nat) : Int := sumI (fun i => (pc (thrS n A B C (X i) (Y i) (D i)) : Int) - 1) K
theorem c_surplus (hR : LR n A B C) (hT : Tp K (fun j => thrS n A B C (X j) (Y j) (D j)) mt) (hK : K ≤ 36) (hN : 70000 ≤ N) : fX2_surplus N mt (nI K) = some (iI (surp n A B C X Y D K)) := by
  have hn := hR.1
  rw [fX2_surplus.eq_1]
  exact loop_u (fun f j => fX2_surplus_b4 N mt (nI K) f (iI (surp n A B C X Y D j)) (nI j)) _ K
    (fun f => by rw [fX2_surplus_b4.eq_2, if_pos (nI_le' (by omega) (Nat.le_refl K))])
    (fun f j hj => by
      have hT' : mt j = nI (thrS n A B C (X j) (Y j) (D j)) := hT j hj
      rw [fX2_surplus_b4.eq_2, if_neg (nI_nle' (by omega) hj), rd_36 (by omega), hT', m_bitCount N (thrS_lt hn _ _ _), bd_s, nI_1, ← iI_nI (pc _), iI_1, iI_sub, iI_add]
      rfl) K N 0 (by omega) (by omega)
theorem c_power_t (N : Nat) {i : Nat} (h : i < 3) : fX4_checkPower N (nI i) = some (.inr ()) := by
  rw [fX4_checkPower.eq_1, if_neg (idx_lt0 h (by omega)), if_pos (show nI i ≤ (2 : Int32) from nI_le' (b := 2) (by omega) (by omega))]
theorem c_power_f (N : Nat) {x : Int32} (h : bad x 3) : fX4_checkPower N x = some (.inl xIAE) := by
  rw [fX4_checkPower.eq_1]
  by_cases c : x < 0
  · rw [if_pos c]
  · rw [if_neg c, if_neg]
    intro z
    rcases h with h | h
    · exact c h
    · rw [show nI 3 = (3 : Int32) from rfl, Int32.le_iff_toInt_le, show (3 : Int32).toInt = 3 from by decide] at h
      rw [Int32.le_iff_toInt_le, show (2 : Int32).toInt = 2 from by decide] at z
      omega
/-! polynomialAnew -/
theorem cross_ht {a b j : Nat} {x y d : Int} (hd : 0 < d) (h : At n A B C a b x y d) : ht A B C j (cr C B a b) (cr A C a b) (cr A B a b) = 0 ↔ ht A B C j x y d = 0 := by
  obtain ⟨e1, e2⟩ := at_on h.2.2.2.1 h.2.2.2.2
  have e : d * ht A B C j (cr C B a b) (cr A C a b) (cr A B a b) = cr A B a b * ht A B C j x y d := by
    unfold ht
    have f1 : cr A B a b * (A j * x + B j * y - C j * d) = A j * (cr A B a b * x) + B j * (cr A B a b * y) - C j * (cr A B a b * d) := by grind
    rw [f1, e1, e2]
    grind
  constructor
  · intro z
    rw [z, Int.mul_zero] at e
    rcases Int.mul_eq_zero.mp e.symm with w | w
    · exact absurd w h.2.2.1
    · exact w
  · intro z
    rw [z, Int.mul_zero] at e
    rcases Int.mul_eq_zero.mp e with w | w
    · omega
    · exact w
noncomputable def lowB (A B C : Nat → Int) (l j : Nat) : Bool := bP (cr A B l j ≠ 0 ∧ ∀ i, i < j → ht A B C i (cr C B l j) (cr A C l j) (cr A B l j) ≠ 0)
theorem c_crossed (hD : LD n A B C la lb lc) (hR : LR n A B C) (hN : 70000 ≤ N) {l j : Nat} (hl : l < n) (hj : j < n) : fX1_isCrossedBefore N la lb lc (nI l) (nI j) = some (b01 (bP (∃ i, i < j ∧ ht A B C i (cr C B l j) (cr A C l j) (cr A B l j) = 0))) := by
  have hn := hR.1
  obtain ⟨c1, c2, c3⟩ := cr_bd hR hl hj
  rw [fX1_isCrossedBefore.eq_1, m_crossX hD hn N hl hj, bd_s, m_crossY hD hn N hl hj, bd_s, m_crossD hD hn N hl hj, bd_s]
  rcases loop_find (fun f i => fX1_isCrossedBefore_b26 N la lb lc (nI j) (iI (cr C B l j)) (iI (cr A C l j)) (iI (cr A B l j)) f (nI i)) (fun i => ht A B C i (cr C B l j) (cr A C l j) (cr A B l j) = 0) (fun _ => some 1) (some 0) j
    (fun f => by
      rw [fX1_isCrossedBefore_b26.eq_2, if_pos (nI_le' (by omega) (Nat.le_refl j)), zo_0])
    (fun f i hi h => by
      have hs := ht_sm (x := cr C B l j) (y := cr A C l j) (d := cr A B l j) hR (show i < n by omega) (by omega) (by omega) (by omega)
      rw [fX1_isCrossedBefore_b26.eq_2, if_neg (nI_nle' (by omega) hi), m_height hD hn N (by omega), bd_s, if_pos (by rw [iI_eq0 hs]; exact h), zo_1])
    (fun f i hi h => by
      have hs := ht_sm (x := cr C B l j) (y := cr A C l j) (d := cr A B l j) hR (show i < n by omega) (by omega) (by omega) (by omega)
      rw [fX1_isCrossedBefore_b26.eq_2, if_neg (nI_nle' (by omega) hi), m_height hD hn N (by omega), bd_s, if_neg (by rw [iI_eq0 hs]; exact h), nI_1])
    j N 0 (by omega) (by omega) with ⟨i, -, h1, h2, -, h3⟩ | ⟨h1, h2⟩
  · rw [bP_t ⟨i, h1, h2⟩]; exact h3
  · rw [bP_f (fun ⟨i, hi, z⟩ => h1 i (Nat.zero_le i) hi z)]; exact h2
theorem c_lower (hD : LD n A B C la lb lc) (hR : LR n A B C) (hN : 70000 ≤ N) {l : Nat} (hl : l < n) : fX1_pointsOnLowerOnes N la lb lc (nI l) = some (nI (rk (lowB A B C l) l)) := by
  have hn := hR.1
  rw [fX1_pointsOnLowerOnes.eq_1]
  exact loop_u (fun f j => fX1_pointsOnLowerOnes_b4 N la lb lc (nI l) f (nI (rk (lowB A B C l) j)) (nI j)) _ l
    (fun f => by rw [fX1_pointsOnLowerOnes_b4.eq_2, if_pos (nI_le' (by omega) (Nat.le_refl l))])
    (fun f j hj => by
      obtain ⟨c1, c2, c3⟩ := cr_bd hR hl (show j < n by omega)
      rw [fX1_pointsOnLowerOnes_b4.eq_2, if_neg (nI_nle' (by omega) hj), m_crossD hD hn N hl (by omega), bd_s, nI_1]
      by_cases c : cr A B l j = 0
      · rw [if_pos (by rw [iI_eq0 (sm_of c1)]; exact c), rk_f (show lowB A B C l j = false from bP_f (fun z => z.1 c))]
      · rw [if_neg (by rw [iI_eq0 (sm_of c1)]; exact c), c_crossed hD hR hN hl (by omega), bd_s, nI_1]
        by_cases c4 : ∃ i, i < j ∧ ht A B C i (cr C B l j) (cr A C l j) (cr A B l j) = 0
        · rw [bP_t c4, if_neg b01t, rk_f (show lowB A B C l j = false from bP_f (fun z => by obtain ⟨i, hi, w⟩ := c4; exact z.2 i hi w))]
        · rw [bP_f c4, if_pos b01f, rk_t (show lowB A B C l j = true from bP_t ⟨c, fun i hi z => c4 ⟨i, hi, z⟩⟩)])
    l N 0 (by omega) (by omega)
/-- a MEET on the line l and on a lower one -/
noncomputable def lowM (n : Nat) (A B C : Nat → Int) (X Y D : Nat → Int) (l i : Nat) : Bool := bP (ht A B C l (X i) (Y i) (D i) = 0 ∧ ∃ j, j < l ∧ ht A B C j (X i) (Y i) (D i) = 0)
theorem low_same (hU : LU n A B C) (hM : MSp n A B C K X Y D) {l : Nat} (hl : l < n) : rk (lowB A B C l) l = rk (lowM n A B C X Y D l) K := by
  apply Nat.le_antisymm
  · have hex : ∀ j, ∃ i, j < l → lowB A B C l j = true → i < K ∧ At n A B C l j (X i) (Y i) (D i) := by
      intro j
      by_cases hj : j < l
      · by_cases hb : lowB A B C l j = true
        · obtain ⟨i, hi, h⟩ := hM.2.2 l j trivial hl (by omega) (bP_iff.mp hb).1
          exact ⟨i, fun _ _ => ⟨hi, h⟩⟩
        · exact ⟨0, fun _ z => absurd z hb⟩
      · exact ⟨0, fun z => absurd z hj⟩
    refine pig2 (f := fun j => Classical.choose (hex j)) (fun j hj hb => ?_) (fun j j' hj hj' hb hb' e => ?_)
    · obtain ⟨h1, h2⟩ := Classical.choose_spec (hex j) hj hb
      exact ⟨h1, bP_t ⟨h2.2.2.2.1, j, hj, h2.2.2.2.2⟩⟩
    · obtain ⟨h1, h2⟩ := Classical.choose_spec (hex j) hj hb
      obtain ⟨h3, h4⟩ := Classical.choose_spec (hex j') hj' hb'
      rw [e] at h2
      have hd := (hM.1 _ h3).1.1
      rcases Nat.lt_trichotomy j j' with c | c | c
      · exact absurd ((cross_ht hd h4).mpr h2.2.2.2.2) ((bP_iff.mp hb').2 j c)
      · exact c
      · exact absurd ((cross_ht hd h2).mpr h4.2.2.2.2) ((bP_iff.mp hb).2 j' c)
  · have hex : ∀ i, ∃ j, i < K → lowM n A B C X Y D l i = true → j < l ∧ ht A B C j (X i) (Y i) (D i) = 0 ∧ ∀ j', j' < j → ¬ ht A B C j' (X i) (Y i) (D i) = 0 := by
      intro i
      by_cases hi : i < K
      · by_cases hb : lowM n A B C X Y D l i = true
        · obtain ⟨j, h1, h2, h3⟩ := min_ex (P := fun j => ht A B C j (X i) (Y i) (D i) = 0) l (bP_iff.mp hb).2
          exact ⟨j, fun _ _ => ⟨h1, h2, h3⟩⟩
        · exact ⟨0, fun _ z => absurd z hb⟩
      · exact ⟨0, fun z => absurd z hi⟩
    have hat : ∀ i, i < K → lowM n A B C X Y D l i = true → At n A B C l (Classical.choose (hex i)) (X i) (Y i) (D i) := by
      intro i hi hb
      obtain ⟨h1, h2, h3⟩ := Classical.choose_spec (hex i) hi hb
      have h0 := (bP_iff.mp hb).1
      obtain ⟨c, -, -⟩ := two_on hU hl (show Classical.choose (hex i) < n by omega) (by omega) (hM.1 i hi).1.1 h0 h2
      exact ⟨hl, by omega, c, h0, h2⟩
    refine pig2 (f := fun i => Classical.choose (hex i)) (fun i hi hb => ?_) (fun i i' hi hi' hb hb' e => ?_)
    · obtain ⟨h1, h2, h3⟩ := Classical.choose_spec (hex i) hi hb
      have ha := hat i hi hb
      refine ⟨h1, bP_t ⟨ha.2.2.1, fun j' hj' z => h3 j' hj' ((cross_ht (hM.1 i hi).1.1 ha).mp z)⟩⟩
    · have h1 := hat i hi hb
      have h2 := hat i' hi' hb'
      rw [e] at h1
      apply Classical.byContradiction
      intro c
      exact RowQ_ne hM hi hi' c (at_eq3 h1 h2)
theorem low_bits (hn : n ≤ 9) {s l : Nat} (hs : s < 512) (hl : l < n) : (nI s &&& ((1 <<< (nI l &&& 31)) - 1) = 0) ↔ ∀ j, j < l → s.testBit j = false := by
  have g : ∀ s, s < 512 → ∀ l, l < 9 → ((nI s &&& ((1 <<< (nI l &&& 31)) - 1) = 0) ↔ ∀ j, j < l → s.testBit j = false) := by decide +kernel
  exact g s hs l (by omega)
end OA

