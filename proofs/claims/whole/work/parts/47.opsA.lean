/-! ===== meets, meet, polynomial ===== -/
section OA
theorem loop_u {ρ : Type} (F : Nat → Nat → Option ρ) (R : Option ρ) (n : Nat) (hexit : ∀ f, F (f + 1) n = R) (hstep : ∀ f j, j < n → F (f + 1) j = F f (j + 1)) :
    ∀ m f j, j + m = n → m < f → F f j = R := by
  intro m
  induction m with
  | zero =>
    intro f j hj hf
    obtain ⟨f', rfl⟩ : ∃ f', f = f' + 1 := ⟨f - 1, by omega⟩
    obtain rfl : j = n := by omega
    exact hexit f'
  | succ m ih =>
    intro f j hj hf
    obtain ⟨f', rfl⟩ : ∃ f', f = f' + 1 := ⟨f - 1, by omega⟩
    rw [hstep f' j (by omega), ih f' (j + 1) (by omega) (by omega)]
def sumN (f : Nat → Nat) : Nat → Nat
  | 0 => 0
  | n + 1 => sumN f n + f n
theorem sumN_s (f : Nat → Nat) (n : Nat) : sumN f (n + 1) = sumN f n + f n := rfl
theorem sumN_cong {f g : Nat → Nat} : ∀ {n : Nat}, (∀ i, i < n → f i = g i) → sumN f n = sumN g n
  | 0, _ => rfl
  | n + 1, h => by rw [sumN_s, sumN_s, sumN_cong (fun i hi => h i (by omega)), h n (by omega)]
def sumI (f : Nat → Int) : Nat → Int
  | 0 => 0
  | n + 1 => sumI f n + f n
theorem sumI_s (f : Nat → Int) (n : Nat) : sumI f (n + 1) = sumI f n + f n := rfl
theorem pig2 {p q : Nat → Bool} {m b : Nat} {f : Nat → Nat} (h1 : ∀ s, s < m → p s = true → f s < b ∧ q (f s) = true) (h2 : ∀ s t, s < m → t < m → p s = true → p t = true → f s = f t → s = t) : rk p m ≤ rk q b :=
  pig (f := fun s => rk q (f s)) (rk q b) p (fun s hs hp => rk_lt (h1 s hs hp).1 (h1 s hs hp).2) (fun s t hs ht ps pt e => h2 s t hs ht ps pt (rk_inj (h1 s hs ps).2 (h1 t ht pt).2 e))
variable {n : Nat} {A B C : Nat → Int} {la lb lc da db dc : Nat → Int32} {N : Nat} {K : Nat} {X Y D : Nat → Int} {mx my md mt : Nat → Int32}
theorem o_meets (hD' : LD n A B C da db dc) (hR : LR n A B C) (hN : 70000 ≤ N) (hM : MSp n A B C K X Y D) (k0 : Int32) (x0 y0 d0 : Nat → Int32) (t0 : Int32) :
    ∃ u v, fX4_meets N (nI K) = some u ∧ fX5_meets N (nI n) da db dc k0 x0 y0 d0 t0 = some v ∧ u = v.1 := by
  obtain ⟨x', y', d', hP, e⟩ := r_findMeets hD' hR hN hM k0 x0 y0 d0
  rw [fX5_meets.eq_1, e, bd_s, fX4_meets.eq_1, fX2_count.eq_1]
  exact ⟨_, _, rfl, rfl, rfl⟩
theorem two_ne0 : ¬ (2 : Int32) = 0 := by decide
theorem in4t (N : Nat) {w : Nat} (h : w < 4) : fX5_in N (nI w) 0 3 = some (b01 true) := in_t (K := 4) N h (by omega)
theorem in4f (N : Nat) {x : Int32} (h : bad x 4) : fX5_in N x 0 3 = some (b01 false) := in_f (K := 4) N h (by omega)
theorem in3t (N : Nat) {w : Nat} (h : w < 3) : fX5_in N (nI w) 0 2 = some (b01 true) := in_t (K := 3) N h (by omega)
theorem in3f (N : Nat) {x : Int32} (h : bad x 3) : fX5_in N x 0 2 = some (b01 false) := in_f (K := 3) N h (by omega)
theorem c_checkMeet_t (N : Nat) (hK : K ≤ 36) {i : Nat} (hi : i < K) : fX4_checkMeet N (nI K) (nI i) = some (.inr ()) := by
  rw [fX4_checkMeet.eq_1, if_neg (idx_lt0 hi (by omega)), fX2_count.eq_1, bd_s, if_pos (idx_ltK hi (by omega))]
theorem c_checkMeet_f (N : Nat) {x : Int32} (h : bad x K) : fX4_checkMeet N (nI K) x = some (.inl xIOO) := by
  rw [fX4_checkMeet.eq_1]
  by_cases c : x < 0
  · rw [if_pos c]
  · rw [if_neg c, fX2_count.eq_1, bd_s, if_neg (bad_K h c)]
theorem o_meet (hD' : LD n A B C da db dc) (hR : LR n A B C) (hN : 70000 ≤ N) (hM : MSp n A B C K X Y D) (hP : Rp K X Y D mx my md) (hT : Tp K (fun j => thrS n A B C (X j) (Y j) (D j)) mt) (hK : K ≤ 36) (k0 : Int32) (x0 y0 d0 : Nat → Int32) (t0 : Int32) (o : Nat → Int64) (x1 x2 : Int32) :
    ∃ u v, fL_meet N mx my md mt (nI K) o x1 x2 = some u ∧ fX5_meet N (nI n) da db dc k0 x0 y0 d0 t0 x1 x2 = some v ∧ v.2.2.2.2.2 = u.1 ∧ (u.1 = 0 → u.2 0 = Int32.toInt64 v.1) := by
  obtain ⟨x', y', d', hP', e⟩ := r_findMeets hD' hR hN hM k0 x0 y0 d0
  rw [fX5_meet.eq_1, e, bd_s, fL_meet.eq_1, fX4_meet.eq_1]
  rcases idx x1 (K := K) (by omega) with ⟨i, hi, rfl⟩ | hb
  · obtain ⟨g1, g2, g3⟩ := hP i hi
    obtain ⟨g4, g5, g6⟩ := hP' i hi
    rw [c_checkMeet_t N hK hi, bdx_r, in_t N hi (by omega), bd_s, f_t, bd_s, if_pos b01f]
    dsimp only
    rcases idx x2 (K := 4) (by omega) with ⟨w, hw, rfl⟩ | hb
    · rw [in4t N hw, bd_s, f_t, bd_s, if_pos b01f]
      dsimp only
      obtain rfl | rfl | rfl | rfl : w = 0 ∨ w = 1 ∨ w = 2 ∨ w = 3 := by omega
      · simp (disch := decide) only [if_pos, if_neg]
        rw [fX2_x.eq_1, rd_36 (by omega), rd_36 (by omega), bd_s, bdc_r, g1, g4]
        exact ⟨_, _, rfl, rfl, rfl, fun _ => updL0 o _⟩
      · simp (disch := decide) only [if_pos, if_neg]
        rw [fX2_y.eq_1, rd_36 (by omega), rd_36 (by omega), bd_s, bdc_r, g2, g5]
        exact ⟨_, _, rfl, rfl, rfl, fun _ => updL0 o _⟩
      · simp (disch := decide) only [if_pos, if_neg]
        rw [fX2_d.eq_1, rd_36 (by omega), rd_36 (by omega), bd_s, bdc_r, g3, g6]
        exact ⟨_, _, rfl, rfl, rfl, fun _ => updL0 o _⟩
      · simp (disch := decide) only [if_pos, if_neg]
        rw [fX2_through.eq_1, rd_36 (by omega), bd_s, bdc_r, hT i hi, r_through hD' hR hM hP' hK hN hi, bd_s]
        exact ⟨_, _, rfl, rfl, rfl, fun _ => updL0 o _⟩
    · have h0 := bad_ne hb (i := 0) (by omega) (by omega)
      have h1 := bad_ne hb (i := 1) (by omega) (by omega)
      have h2 := bad_ne hb (i := 2) (by omega) (by omega)
      have h3 := bad_ne hb (i := 3) (by omega) (by omega)
      rw [in4f N hb, bd_s, f_f, bd_s, if_neg b01t, if_neg (show ¬ x2 = 0 from h0), if_neg (show ¬ x2 = 1 from h1), if_neg (show ¬ x2 = 2 from h2), if_neg (show ¬ x2 = 3 from h3), bdc_l, if_neg xne1, if_pos rfl]
      exact ⟨_, _, rfl, rfl, rfl, fun z => absurd z two_ne0⟩
  · rw [c_checkMeet_f N hb, bdx_l, bdc_l, if_pos rfl, in_f N hb (by omega), bd_s, f_f, bd_s, if_neg b01t]
    exact ⟨_, _, rfl, rfl, rfl, fun z => absurd z one_ne0⟩
/-- the sum of what the MEETS have too much -/
noncomputable def surp (n : Nat) (A B C : Nat → Int) (X Y D : Nat → Int) (K : Nat) : Int := sumI (fun i => (pc (thrS n A B C (X i) (Y i) (D i)) : Int) - 1) K
theorem c_surplus (hR : LR n A B C) (hT : Tp K (fun j => thrS n A B C (X j) (Y j) (D j)) mt) (hK : K ≤ 36) (hN : 70000 ≤ N) : fX2_surplus N mt (nI K) = some (iI (surp n A B C X Y D K)) := by
  have hn := hR.1
  rw [fX2_surplus.eq_1]
  exact loop_u (fun f j => fX2_surplus_b4 N mt (nI K) f (iI (surp n A B C X Y D j)) (nI j)) _ K
    (fun f => by rw [fX2_surplus_b4.eq_2, if_pos (nI_le' (by omega) (Nat.le_refl K))])
    (fun f j hj => by
      have hT' : mt j = nI (thrS n A B C (X j) (Y j) (D j)) := hT j hj
      rw [fX2_surplus_b4.eq_2, if_neg (nI_nle' (by omega) hj), rd_36 (by omega), hT', m_bitCount N (thrS_lt hn _ _ _), bd_s, nI_1, ← iI_nI (pc _), iI_1, iI_sub, iI_add]
      rfl) K N 0 (by omega) (by omega)
theorem c_power_t (N : Nat) {i : Nat} (h : i < 3) : fX4_checkPower N (nI i) = some (.inr ()) := by
  rw [fX4_checkPower.eq_1, if_neg (idx_lt0 h (by omega)), if_pos (show nI i ≤ (2 : Int32) from nI_le' (b := 2) (by omega) (by omega))]
theorem c_power_f (N : Nat) {x : Int32} (h : bad x 3) : fX4_checkPower N x = some (.inl xIAE) := by
  rw [fX4_checkPower.eq_1]
  by_cases c : x < 0
  · rw [if_pos c]
  · rw [if_neg c, if_neg]
    intro z
    rcases h with h | h
    · exact c h
    · rw [show nI 3 = (3 : Int32) from rfl, Int32.le_iff_toInt_le, show (3 : Int32).toInt = 3 from by decide] at h
      rw [Int32.le_iff_toInt_le, show (2 : Int32).toInt = 2 from by decide] at z
      omega
theorem o_polynomial (hD' : LD n A B C da db dc) (hR : LR n A B C) (hN : 70000 ≤ N) (hM : MSp n A B C K X Y D) (hT : Tp K (fun j => thrS n A B C (X j) (Y j) (D j)) mt) (hK : K ≤ 36) (k0 : Int32) (x0 y0 d0 : Nat → Int32) (t0 : Int32) (o : Nat → Int64) (x1 : Int32) :
    ∃ u v, fL_polynomial N (nI n) mt (nI K) o x1 = some u ∧ fX5_polynomial N (nI n) da db dc k0 x0 y0 d0 t0 x1 = some v ∧ v.2.2.2.2.2 = u.1 ∧ (u.1 = 0 → u.2 0 = Int32.toInt64 v.1) := by
  have hn := hR.1
  rw [fX5_polynomial.eq_1, fL_polynomial.eq_1, fX4_polynomial.eq_1]
  rcases idx x1 (K := 3) (by omega) with ⟨w, hw, rfl⟩ | hb
  · obtain ⟨x', y', d', hP', e⟩ := r_findMeets hD' hR hN hM k0 x0 y0 d0
    rw [in3t N hw, bd_s, f_t, bd_s, if_pos b01f, e, bd_s, c_power_t N hw, bdx_r, c_surplus hR hT hK hN, bd_s]
    dsimp only
    have hl : ∀ Kc : Int32 → Option (Int32 × Int32 × (Nat → Int32) × (Nat → Int32) × (Nat → Int32) × Int32), fX5_polynomial_b24 N (nI n) da db dc (nI K) x' y' d' Kc N 0 0 = Kc (iI (surp n A B C X Y D K)) := fun Kc => loop_u (fun f j => fX5_polynomial_b24 N (nI n) da db dc (nI K) x' y' d' Kc f (iI (surp n A B C X Y D j)) (nI j)) _ K
      (fun f => by rw [fX5_polynomial_b24.eq_2, if_pos (nI_le' (by omega) (Nat.le_refl K))])
      (fun f j hj => by
        rw [fX5_polynomial_b24.eq_2, if_neg (nI_nle' (by omega) hj), r_through hD' hR hM hP' hK hN hj, bd_s, r_size hN (thrS_lt hn _ _ _), bd_s, nI_1, ← iI_nI (pc _), iI_1, iI_sub, iI_add]
        rfl) K N 0 (by omega) (by omega)
    rw [hl, fX4_numberWithPower.eq_1]
    obtain rfl | rfl | rfl : w = 0 ∨ w = 1 ∨ w = 2 := by omega
    · simp (disch := decide) only [if_pos, if_neg]
      rw [bd_s, bdc_r]
      exact ⟨_, _, rfl, rfl, rfl, fun _ => updL0 o _⟩
    · simp (disch := decide) only [if_pos, if_neg]
      rw [fX1_count.eq_1, bd_s, bd_s, bdc_r]
      exact ⟨_, _, rfl, rfl, rfl, fun _ => updL0 o _⟩
    · simp (disch := decide) only [if_pos, if_neg]
      rw [bd_s, bdc_r]
      exact ⟨_, _, rfl, rfl, rfl, fun _ => updL0 o _⟩
  · rw [c_power_f N hb, bdx_l, bdc_l, if_pos rfl, in3f N hb, bd_s, f_f, bd_s, if_neg b01t]
    exact ⟨_, _, rfl, rfl, rfl, fun z => absurd z one_ne0⟩
/-! polynomialAnew -/
theorem cross_ht {a b j : Nat} {x y d : Int} (hd : 0 < d) (h : At n A B C a b x y d) : ht A B C j (cr C B a b) (cr A C a b) (cr A B a b) = 0 ↔ ht A B C j x y d = 0 := by
  obtain ⟨e1, e2⟩ := at_on h.2.2.2.1 h.2.2.2.2
  have e : d * ht A B C j (cr C B a b) (cr A C a b) (cr A B a b) = cr A B a b * ht A B C j x y d := by
    unfold ht
    have f1 : cr A B a b * (A j * x + B j * y - C j * d) = A j * (cr A B a b * x) + B j * (cr A B a b * y) - C j * (cr A B a b * d) := by grind
    rw [f1, e1, e2]
    grind
  constructor
  · intro z
    rw [z, Int.mul_zero] at e
    rcases Int.mul_eq_zero.mp e.symm with w | w
    · exact absurd w h.2.2.1
    · exact w
  · intro z
    rw [z, Int.mul_zero] at e
    rcases Int.mul_eq_zero.mp e with w | w
    · omega
    · exact w
noncomputable def lowB (A B C : Nat → Int) (l j : Nat) : Bool := bP (cr A B l j ≠ 0 ∧ ∀ i, i < j → ht A B C i (cr C B l j) (cr A C l j) (cr A B l j) ≠ 0)
theorem c_crossed (hD : LD n A B C la lb lc) (hR : LR n A B C) (hN : 70000 ≤ N) {l j : Nat} (hl : l < n) (hj : j < n) : fX1_isCrossedBefore N la lb lc (nI l) (nI j) = some (b01 (bP (∃ i, i < j ∧ ht A B C i (cr C B l j) (cr A C l j) (cr A B l j) = 0))) := by
  have hn := hR.1
  obtain ⟨c1, c2, c3⟩ := cr_bd hR hl hj
  rw [fX1_isCrossedBefore.eq_1, m_crossX hD hn N hl hj, bd_s, m_crossY hD hn N hl hj, bd_s, m_crossD hD hn N hl hj, bd_s]
  rcases loop_find (fun f i => fX1_isCrossedBefore_b26 N la lb lc (nI j) (iI (cr C B l j)) (iI (cr A C l j)) (iI (cr A B l j)) f (nI i)) (fun i => ht A B C i (cr C B l j) (cr A C l j) (cr A B l j) = 0) (fun _ => some 1) (some 0) j
    (fun f => by
      rw [fX1_isCrossedBefore_b26.eq_2, if_pos (nI_le' (by omega) (Nat.le_refl j)), zo_0])
    (fun f i hi h => by
      have hs := ht_sm (x := cr C B l j) (y := cr A C l j) (d := cr A B l j) hR (show i < n by omega) (by omega) (by omega) (by omega)
      rw [fX1_isCrossedBefore_b26.eq_2, if_neg (nI_nle' (by omega) hi), m_height hD hn N (by omega), bd_s, if_pos (by rw [iI_eq0 hs]; exact h), zo_1])
    (fun f i hi h => by
      have hs := ht_sm (x := cr C B l j) (y := cr A C l j) (d := cr A B l j) hR (show i < n by omega) (by omega) (by omega) (by omega)
      rw [fX1_isCrossedBefore_b26.eq_2, if_neg (nI_nle' (by omega) hi), m_height hD hn N (by omega), bd_s, if_neg (by rw [iI_eq0 hs]; exact h), nI_1])
    j N 0 (by omega) (by omega) with ⟨i, -, h1, h2, -, h3⟩ | ⟨h1, h2⟩
  · rw [bP_t ⟨i, h1, h2⟩]; exact h3
  · rw [bP_f (fun ⟨i, hi, z⟩ => h1 i (Nat.zero_le i) hi z)]; exact h2
theorem c_lower (hD : LD n A B C la lb lc) (hR : LR n A B C) (hN : 70000 ≤ N) {l : Nat} (hl : l < n) : fX1_pointsOnLowerOnes N la lb lc (nI l) = some (nI (rk (lowB A B C l) l)) := by
  have hn := hR.1
  rw [fX1_pointsOnLowerOnes.eq_1]
  exact loop_u (fun f j => fX1_pointsOnLowerOnes_b4 N la lb lc (nI l) f (nI (rk (lowB A B C l) j)) (nI j)) _ l
    (fun f => by rw [fX1_pointsOnLowerOnes_b4.eq_2, if_pos (nI_le' (by omega) (Nat.le_refl l))])
    (fun f j hj => by
      obtain ⟨c1, c2, c3⟩ := cr_bd hR hl (show j < n by omega)
      rw [fX1_pointsOnLowerOnes_b4.eq_2, if_neg (nI_nle' (by omega) hj), m_crossD hD hn N hl (by omega), bd_s, nI_1]
      by_cases c : cr A B l j = 0
      · rw [if_pos (by rw [iI_eq0 (sm_of c1)]; exact c), rk_f (show lowB A B C l j = false from bP_f (fun z => z.1 c))]
      · rw [if_neg (by rw [iI_eq0 (sm_of c1)]; exact c), c_crossed hD hR hN hl (by omega), bd_s, nI_1]
        by_cases c4 : ∃ i, i < j ∧ ht A B C i (cr C B l j) (cr A C l j) (cr A B l j) = 0
        · rw [bP_t c4, if_neg b01t, rk_f (show lowB A B C l j = false from bP_f (fun z => by obtain ⟨i, hi, w⟩ := c4; exact z.2 i hi w))]
        · rw [bP_f c4, if_pos b01f, rk_t (show lowB A B C l j = true from bP_t ⟨c, fun i hi z => c4 ⟨i, hi, z⟩⟩)])
    l N 0 (by omega) (by omega)
/-- a MEET on the line l and on a lower one -/
noncomputable def lowM (n : Nat) (A B C : Nat → Int) (X Y D : Nat → Int) (l i : Nat) : Bool := bP (ht A B C l (X i) (Y i) (D i) = 0 ∧ ∃ j, j < l ∧ ht A B C j (X i) (Y i) (D i) = 0)
theorem low_same (hU : LU n A B C) (hM : MSp n A B C K X Y D) {l : Nat} (hl : l < n) : rk (lowB A B C l) l = rk (lowM n A B C X Y D l) K := by
  apply Nat.le_antisymm
  · have hex : ∀ j, ∃ i, j < l → lowB A B C l j = true → i < K ∧ At n A B C l j (X i) (Y i) (D i) := by
      intro j
      by_cases hj : j < l
      · by_cases hb : lowB A B C l j = true
        · obtain ⟨i, hi, h⟩ := hM.2.2 l j trivial hl (by omega) (bP_iff.mp hb).1
          exact ⟨i, fun _ _ => ⟨hi, h⟩⟩
        · exact ⟨0, fun _ z => absurd z hb⟩
      · exact ⟨0, fun z => absurd z hj⟩
    refine pig2 (f := fun j => Classical.choose (hex j)) (fun j hj hb => ?_) (fun j j' hj hj' hb hb' e => ?_)
    · obtain ⟨h1, h2⟩ := Classical.choose_spec (hex j) hj hb
      exact ⟨h1, bP_t ⟨h2.2.2.2.1, j, hj, h2.2.2.2.2⟩⟩
    · obtain ⟨h1, h2⟩ := Classical.choose_spec (hex j) hj hb
      obtain ⟨h3, h4⟩ := Classical.choose_spec (hex j') hj' hb'
      rw [e] at h2
      have hd := (hM.1 _ h3).1.1
      rcases Nat.lt_trichotomy j j' with c | c | c
      · exact absurd ((cross_ht hd h4).mpr h2.2.2.2.2) ((bP_iff.mp hb').2 j c)
      · exact c
      · exact absurd ((cross_ht hd h2).mpr h4.2.2.2.2) ((bP_iff.mp hb).2 j' c)
  · have hex : ∀ i, ∃ j, i < K → lowM n A B C X Y D l i = true → j < l ∧ ht A B C j (X i) (Y i) (D i) = 0 ∧ ∀ j', j' < j → ¬ ht A B C j' (X i) (Y i) (D i) = 0 := by
      intro i
      by_cases hi : i < K
      · by_cases hb : lowM n A B C X Y D l i = true
        · obtain ⟨j, h1, h2, h3⟩ := min_ex (P := fun j => ht A B C j (X i) (Y i) (D i) = 0) l (bP_iff.mp hb).2
          exact ⟨j, fun _ _ => ⟨h1, h2, h3⟩⟩
        · exact ⟨0, fun _ z => absurd z hb⟩
      · exact ⟨0, fun z => absurd z hi⟩
    have hat : ∀ i, i < K → lowM n A B C X Y D l i = true → At n A B C l (Classical.choose (hex i)) (X i) (Y i) (D i) := by
      intro i hi hb
      obtain ⟨h1, h2, h3⟩ := Classical.choose_spec (hex i) hi hb
      have h0 := (bP_iff.mp hb).1
      obtain ⟨c, -, -⟩ := two_on hU hl (show Classical.choose (hex i) < n by omega) (by omega) (hM.1 i hi).1.1 h0 h2
      exact ⟨hl, by omega, c, h0, h2⟩
    refine pig2 (f := fun i => Classical.choose (hex i)) (fun i hi hb => ?_) (fun i i' hi hi' hb hb' e => ?_)
    · obtain ⟨h1, h2, h3⟩ := Classical.choose_spec (hex i) hi hb
      have ha := hat i hi hb
      refine ⟨h1, bP_t ⟨ha.2.2.1, fun j' hj' z => h3 j' hj' ((cross_ht (hM.1 i hi).1.1 ha).mp z)⟩⟩
    · have h1 := hat i hi hb
      have h2 := hat i' hi' hb'
      rw [e] at h1
      apply Classical.byContradiction
      intro c
      exact RowQ_ne hM hi hi' c (at_eq3 h1 h2)
theorem low_bits (hn : n ≤ 9) {s l : Nat} (hs : s < 512) (hl : l < n) : (nI s &&& ((1 <<< (nI l &&& 31)) - 1) = 0) ↔ ∀ j, j < l → s.testBit j = false := by
  have g : ∀ s, s < 512 → ∀ l, l < 9 → ((nI s &&& ((1 <<< (nI l &&& 31)) - 1) = 0) ↔ ∀ j, j < l → s.testBit j = false) := by decide +kernel
  exact g s hs l (by omega)
theorem o_polynomialAnew (hD : LD n A B C la lb lc) (hD' : LD n A B C da db dc) (hR : LR n A B C) (hU : LU n A B C) (hN : 70000 ≤ N) (hM : MSp n A B C K X Y D) (hK : K ≤ 36) (k0 : Int32) (x0 y0 d0 : Nat → Int32) (t0 : Int32) (o : Nat → Int64) (x1 : Int32) :
    ∃ u v, fL_polynomialAnew N la lb lc (nI n) o x1 = some u ∧ fX5_polynomialAnew N (nI n) da db dc k0 x0 y0 d0 t0 x1 = some v ∧ v.2.2.2.2.2 = u.1 ∧ (u.1 = 0 → u.2 0 = Int32.toInt64 v.1) := by
  have hn := hR.1
  rw [fX5_polynomialAnew.eq_1, fL_polynomialAnew.eq_1, fX4_polynomialAnew.eq_1]
  rcases idx x1 (K := 3) (by omega) with ⟨w, hw, rfl⟩ | hb
  · obtain ⟨x', y', d', hP', e⟩ := r_findMeets hD' hR hN hM k0 x0 y0 d0
    rw [in3t N hw, bd_s, f_t, bd_s, if_pos b01f, e, bd_s, c_power_t N hw, bdx_r]
    dsimp only
    have hc : ∀ Kc : Int32 → Option (String ⊕ Int32), fX4_polynomialAnew_b8 N la lb lc (nI n) Kc N 0 0 = Kc (nI (sumN (fun l => rk (lowM n A B C X Y D l) K) n)) := fun Kc => loop_u (fun f j => fX4_polynomialAnew_b8 N la lb lc (nI n) Kc f (nI (sumN (fun l => rk (lowM n A B C X Y D l) K) j)) (nI j)) _ n
      (fun f => by rw [fX4_polynomialAnew_b8.eq_2, fX1_count.eq_1, bd_s, if_pos (nI_le' (by omega) (Nat.le_refl n))])
      (fun f j hj => by
        rw [fX4_polynomialAnew_b8.eq_2, fX1_count.eq_1, bd_s, if_neg (nI_nle' (by omega) hj), c_lower hD hR hN hj, bd_s, nI_1, nI_add, low_same hU hM hj]
        rfl) n N 0 (by omega) (by omega)
    have hr : ∀ Kc : Int32 → Int32 → Option (Int32 × Int32 × (Nat → Int32) × (Nat → Int32) × (Nat → Int32) × Int32), fX5_polynomialAnew_b27 N (nI n) da db dc (nI K) x' y' d' Kc N 0 0 0 = Kc (iI (-(n : Int))) (nI (sumN (fun l => rk (lowM n A B C X Y D l) K) n)) := fun Kc => loop_u (fun f j => fX5_polynomialAnew_b27 N (nI n) da db dc (nI K) x' y' d' Kc f (iI (-(j : Int))) (nI (sumN (fun l => rk (lowM n A B C X Y D l) K) j)) (nI j)) _ n
      (fun f => by rw [fX5_polynomialAnew_b27.eq_2, if_pos (nI_le' (by omega) (Nat.le_refl n))])
      (fun f j hj => by
        rw [fX5_polynomialAnew_b27.eq_2, if_neg (nI_nle' (by omega) hj), nI_1, iI_m1, iI_add, show -(j : Int) + -1 = -((j + 1 : Nat) : Int) by omega, sumN_s]
        refine loop_u (fun f' i => fX5_polynomialAnew_b42 N (nI n) da db dc (nI K) x' y' d' (nI j) _ f' (nI (sumN (fun l => rk (lowM n A B C X Y D l) K) j + rk (lowM n A B C X Y D j) i)) (nI i)) _ K ?_ ?_ K N 0 (by omega) (by omega)
        · intro f'
          rw [fX5_polynomialAnew_b42.eq_2, if_pos (nI_le' (by omega) (Nat.le_refl K))]
        · intro f' i hi
          have hs := thrS_lt (A := A) (B := B) (C := C) hn (X i) (Y i) (D i)
          rw [fX5_polynomialAnew_b42.eq_2, if_neg (nI_nle' (by omega) hi), r_through hD' hR hM hP' hK hN hi, bd_s, nI_1]
          have ez : ∀ v : Nat, nI v + 0 = nI v := fun v => by rw [show (0 : Int32) = nI 0 from rfl, nI_add, Nat.add_zero]
          rw [ez, nI_1]
          by_cases c : ht A B C j (X i) (Y i) (D i) = 0
          · rw [if_pos (by rw [m_shr hs (by omega), thrS_t]; exact ⟨hj, c⟩)]
            by_cases c2 : ∃ j', j' < j ∧ ht A B C j' (X i) (Y i) (D i) = 0
            · rw [if_neg (by
                rw [low_bits hn hs hj]
                intro z
                obtain ⟨j', h1, h2⟩ := c2
                have h3 := z j' h1
                have h4 : (thrS n A B C (X i) (Y i) (D i)).testBit j' = true := by rw [thrS_t]; exact ⟨by omega, h2⟩
                rw [h4] at h3
                cases h3), rk_t (show lowM n A B C X Y D j i = true from bP_t ⟨c, c2⟩)]
              rfl
            · rw [if_pos (by
                rw [low_bits hn hs hj]
                intro j' h1
                apply Bool.eq_false_iff.mpr
                intro z
                rw [thrS_t] at z
                exact c2 ⟨j', h1, z.2⟩), rk_f (show lowM n A B C X Y D j i = false from bP_f (fun z => c2 z.2))]
          · rw [if_neg (by rw [m_shr hs (by omega), thrS_t]; exact fun z => c z.2), rk_f (show lowM n A B C X Y D j i = false from bP_f (fun z => c z.1))])
      n N 0 (by omega) (by omega)
    rw [hc, hr, fX4_numberWithPower.eq_1]
    obtain rfl | rfl | rfl : w = 0 ∨ w = 1 ∨ w = 2 := by omega
    · simp (disch := decide) only [if_pos, if_neg]
      rw [bd_s, bdc_r]
      exact ⟨_, _, rfl, rfl, rfl, fun _ => updL0 o _⟩
    · simp (disch := decide) only [if_pos, if_neg]
      rw [fX1_count.eq_1, bd_s, bd_s, bdc_r, ← iI_nI, iI_neg]
      exact ⟨_, _, rfl, rfl, rfl, fun _ => updL0 o _⟩
    · simp (disch := decide) only [if_pos, if_neg]
      rw [bd_s, bdc_r]
      exact ⟨_, _, rfl, rfl, rfl, fun _ => updL0 o _⟩
  · rw [c_power_f N hb, bdx_l, bdc_l, if_pos rfl, in3f N hb, bd_s, f_f, bd_s, if_neg b01t]
    exact ⟨_, _, rfl, rfl, rfl, fun z => absurd z one_ne0⟩
end OA
