/-! ===== what the house answers about LINES, MEETS, sums and pairs ===== -/
section AN
variable {n : Nat} {A B C : Nat → Int} {la lb lc : Nat → Int32} {N : Nat} {K : Nat} {X Y D : Nat → Int} {mx my md mt mv rs rn rw_ : Nat → Int32} {rk_ : Int32}
theorem a_meets (N : Nat) : fX4_meets N (nI K) = some (nI K) := by
  rw [fX4_meets.eq_1, fX2_count.eq_1]
  rfl
theorem a_meet (hP : Rp K X Y D mx my md) (hT : Tp K (fun j => thrS n A B C (X j) (Y j) (D j)) mt) (hK : K ≤ 36) (N : Nat) {i : Nat} (hi : i < K) :
    fX4_meet N mx my md mt (nI K) (nI i) 0 = some (.inr (iI (X i))) ∧ fX4_meet N mx my md mt (nI K) (nI i) 1 = some (.inr (iI (Y i))) ∧ fX4_meet N mx my md mt (nI K) (nI i) 2 = some (.inr (iI (D i))) ∧ fX4_meet N mx my md mt (nI K) (nI i) 3 = some (.inr (nI (thrS n A B C (X i) (Y i) (D i)))) := by
  obtain ⟨g1, g2, g3⟩ := hP i hi
  have g4 : mt i = nI (thrS n A B C (X i) (Y i) (D i)) := hT i hi
  refine ⟨?_, ?_, ?_, ?_⟩
  · rw [fX4_meet.eq_1, c_checkMeet_t N hK hi, bdx_r]
    simp (disch := decide) only [if_pos, if_neg]
    rw [fX2_x.eq_1, rd_36 (by omega), bd_s, g1]
  · rw [fX4_meet.eq_1, c_checkMeet_t N hK hi, bdx_r]
    simp (disch := decide) only [if_pos, if_neg]
    rw [fX2_y.eq_1, rd_36 (by omega), bd_s, g2]
  · rw [fX4_meet.eq_1, c_checkMeet_t N hK hi, bdx_r]
    simp (disch := decide) only [if_pos, if_neg]
    rw [fX2_d.eq_1, rd_36 (by omega), bd_s, g3]
  · rw [fX4_meet.eq_1, c_checkMeet_t N hK hi, bdx_r]
    simp (disch := decide) only [if_pos, if_neg]
    rw [fX2_through.eq_1, rd_36 (by omega), bd_s, g4]
theorem a_poly (hR : LR n A B C) (hU : LU n A B C) (hM : MSp n A B C K X Y D) (hT : Tp K (fun j => thrS n A B C (X j) (Y j) (D j)) mt) (hK : K ≤ 36) (hN : 70000 ≤ N) :
    fX4_polynomial N (nI n) mt (nI K) 0 = some (.inr (nI (lowS A B C n))) ∧ fX4_polynomial N (nI n) mt (nI K) 1 = some (.inr (-nI n)) ∧ fX4_polynomial N (nI n) mt (nI K) 2 = some (.inr 1) := by
  have c0 : fX4_checkPower N 0 = some (.inr ()) := c_power_t N (i := 0) (by omega)
  have c1 : fX4_checkPower N 1 = some (.inr ()) := c_power_t N (i := 1) (by omega)
  have c2 : fX4_checkPower N 2 = some (.inr ()) := c_power_t N (i := 2) (by omega)
  have hs := c_surplus (N := N) hR hT hK hN
  rw [surp_low hR.1 hU hM, iI_nI] at hs
  refine ⟨?_, ?_, ?_⟩
  · rw [fX4_polynomial.eq_1, c0, bdx_r, hs, bd_s, fX4_numberWithPower.eq_1]
    simp (disch := decide) only [if_pos, if_neg]
    rw [bd_s]
  · rw [fX4_polynomial.eq_1, c1, bdx_r, hs, bd_s, fX4_numberWithPower.eq_1]
    simp (disch := decide) only [if_pos, if_neg]
    rw [fX1_count.eq_1, bd_s, bd_s]
  · rw [fX4_polynomial.eq_1, c2, bdx_r, hs, bd_s, fX4_numberWithPower.eq_1]
    simp (disch := decide) only [if_pos, if_neg]
    rw [bd_s]
theorem a_polyA (hD : LD n A B C la lb lc) (hR : LR n A B C) (hN : 70000 ≤ N) :
    fX4_polynomialAnew N la lb lc (nI n) 0 = some (.inr (nI (lowS A B C n))) ∧ fX4_polynomialAnew N la lb lc (nI n) 1 = some (.inr (-nI n)) ∧ fX4_polynomialAnew N la lb lc (nI n) 2 = some (.inr 1) := by
  have hn := hR.1
  have c0 : fX4_checkPower N 0 = some (.inr ()) := c_power_t N (i := 0) (by omega)
  have c1 : fX4_checkPower N 1 = some (.inr ()) := c_power_t N (i := 1) (by omega)
  have c2 : fX4_checkPower N 2 = some (.inr ()) := c_power_t N (i := 2) (by omega)
  have hc : ∀ Kc : Int32 → Option (String ⊕ Int32), fX4_polynomialAnew_b8 N la lb lc (nI n) Kc N 0 0 = Kc (nI (lowS A B C n)) := fun Kc => loop_u (fun f j => fX4_polynomialAnew_b8 N la lb lc (nI n) Kc f (nI (lowS A B C j)) (nI j)) _ n
    (fun f => by rw [fX4_polynomialAnew_b8.eq_2, fX1_count.eq_1, bd_s, if_pos (nI_le' (by omega) (Nat.le_refl n))])
    (fun f j hj => by
      rw [fX4_polynomialAnew_b8.eq_2, fX1_count.eq_1, bd_s, if_neg (nI_nle' (by omega) hj), c_lower hD hR hN hj, bd_s, nI_1, nI_add]
      rfl) n N 0 (by omega) (by omega)
  refine ⟨?_, ?_, ?_⟩
  · rw [fX4_polynomialAnew.eq_1, c0, bdx_r, hc, fX4_numberWithPower.eq_1]
    simp (disch := decide) only [if_pos, if_neg]
    rw [bd_s]
  · rw [fX4_polynomialAnew.eq_1, c1, bdx_r, hc, fX4_numberWithPower.eq_1]
    simp (disch := decide) only [if_pos, if_neg]
    rw [fX1_count.eq_1, bd_s, bd_s]
  · rw [fX4_polynomialAnew.eq_1, c2, bdx_r, hc, fX4_numberWithPower.eq_1]
    simp (disch := decide) only [if_pos, if_neg]
    rw [bd_s]
theorem a_pairs (hR : LR n A B C) (hU : LU n A B C) (hN : 70000 ≤ N) (hM : MSp n A B C K X Y D) (hT : Tp K (fun j => thrS n A B C (X j) (Y j) (D j)) mt) (hK : K ≤ 36) : fX4_pairs N (nI n) mt (nI K) = some (nI (lowS A B C n)) := by
  have hn := hR.1
  have hz : ∀ i, rk (pairB A B C K X Y D i) (i + 1) = 0 := fun i => rk_none (fun j hj => by
    unfold pairB
    rw [decide_eq_false (show ¬ i < j by omega), Bool.false_and])
  have hp : ∀ i j, i < j → pairB A B C K X Y D i j = lowP A B C K X Y D i j := fun i j h => by
    unfold pairB
    rw [decide_eq_true h, Bool.true_and]
  rw [← pairs_low hU hM, fX4_pairs.eq_1]
  exact loop_u (fun f i => fX4_pairs_b4 N (nI n) mt (nI K) f (nI (sumN (fun i => rk (pairB A B C K X Y D i) n) i)) (nI i)) _ n
    (fun f => by rw [fX4_pairs_b4.eq_2, fX1_count.eq_1, bd_s, if_pos (nI_le' (by omega) (Nat.le_refl n))])
    (fun f i hi => by
      rw [fX4_pairs_b4.eq_2, fX1_count.eq_1, bd_s, if_neg (nI_nle' (by omega) hi), nI_1, sumN_s]
      have h := loop_ex (fun f' j (_ : Unit) => fX4_pairs_b19 N (nI n) mt (nI K) (nI i) (fun (x1 : Int32) => fX4_pairs_b4 N (nI n) mt (nI K) f x1 (nI (i + 1))) f' (nI (sumN (fun i => rk (pairB A B C K X Y D i) n) i + rk (pairB A B C K X Y D i) j)) (nI j)) (fun _ => fX4_pairs_b4 N (nI n) mt (nI K) f (nI (sumN (fun i => rk (pairB A B C K X Y D i) n) i + rk (pairB A B C K X Y D i) n)) (nI (i + 1))) n (fun j _ => i < j)
        (fun f' _ _ => by rw [fX4_pairs_b19.eq_2, fX1_count.eq_1, bd_s, if_pos (nI_le' (by omega) (Nat.le_refl n))])
        (fun f' j _ hj hij => by
          refine ⟨(), by omega, ?_⟩
          rw [fX4_pairs_b19.eq_2, fX1_count.eq_1, bd_s, if_neg (nI_nle' (by omega) hj), c_lowP hU hn hN hM hT hK hi hj (by omega), bd_s, nI_1, nI_1]
          rcases ho : lowP A B C K X Y D i j with _ | _
          · rw [if_pos b01f, rk_f (show pairB A B C K X Y D i j = false by rw [hp i j hij, ho])]
          · rw [if_neg b01t, rk_t (show pairB A B C K X Y D i j = true by rw [hp i j hij, ho])]
            rfl)
        (n - (i + 1)) N (i + 1) () (by omega) (by omega) (by omega)
      obtain ⟨_, -, h⟩ := h
      rw [hz, Nat.add_zero] at h
      exact h) n N 0 (by omega) (by omega)
theorem sumN_mono (f : Nat → Nat) : ∀ {m m' : Nat}, m ≤ m' → sumN f m ≤ sumN f m' := by
  intro m m' h
  induction m' with
  | zero =>
    obtain rfl : m = 0 := by omega
    exact Nat.le_refl _
  | succ k ih =>
    by_cases e : m = k + 1
    · subst e; exact Nat.le_refl _
    · have := ih (by omega)
      rw [sumN_s]
      omega
theorem a_pair (hR : LR n A B C) (hU : LU n A B C) (hN : 70000 ≤ N) (hM : MSp n A B C K X Y D) (hT : Tp K (fun j => thrS n A B C (X j) (Y j) (D j)) mt) (hK : K ≤ 36) {t : Nat} (ht : t ≤ 1000) :
    (lowS A B C n ≤ t → fX4_pair N (nI n) mt (nI K) (nI t) = some (.inr (-1))) ∧ (t < lowS A B C n → ∃ i j, i < j ∧ j < n ∧ fX4_pair N (nI n) mt (nI K) (nI t) = some (.inr (nI (2 ^ i ||| 2 ^ j)))) := by
  have hn := hR.1
  obtain ⟨S, hS⟩ : ∃ S : Nat → Nat, S = sumN (fun i => rk (pairB A B C K X Y D i) n) := ⟨_, rfl⟩
  have hSn : S n = lowS A B C n := by rw [hS]; exact pairs_low hU hM
  have hS1 : ∀ i, S (i + 1) = S i + rk (pairB A B C K X Y D i) n := fun i => by rw [hS]; rfl
  have hSm : ∀ i, i ≤ n → S i ≤ S n := fun i hi => by rw [hS]; exact sumN_mono _ hi
  have hz : ∀ i, rk (pairB A B C K X Y D i) (i + 1) = 0 := fun i => rk_none (fun j hj => by
    unfold pairB
    rw [decide_eq_false (show ¬ i < j by omega), Bool.false_and])
  have hp : ∀ i j, i < j → pairB A B C K X Y D i j = lowP A B C K X Y D i j := fun i j h => by
    unfold pairB
    rw [decide_eq_true h, Bool.true_and]
  have c0 : fX4_checkPlace N (nI t) = some (.inr ()) := by
    rw [fX4_checkPlace.eq_1, if_pos (show (0 : Int32) ≤ nI t from nI_le' (a := 0) (by omega) (by omega))]
  rw [fX4_pair.eq_1, c0, bdx_r, ← hSn]
  obtain ⟨kk, hkk⟩ : ∃ kk : Int32 → Int32 → Option (String ⊕ Int32), kk = (fun (x3 : Int32) (x4 : Int32) => bd (fX4_bit N x3) (fun u => bd (fX4_bit N x4) (fun w => some (.inr ((u ||| w)))))) := ⟨_, rfl⟩
  rw [← hkk]
  have outer : ∀ m i f, i + m = n → m < f → S i ≤ t → (S n ≤ t → fX4_pair_b8 N (nI n) mt (nI K) (nI t) kk f (nI (S i)) (nI i) = some (.inr (-1))) ∧ (t < S n → ∃ a b, a < b ∧ b < n ∧ fX4_pair_b8 N (nI n) mt (nI K) (nI t) kk f (nI (S i)) (nI i) = some (.inr (nI (2 ^ a ||| 2 ^ b)))) := by
    intro m
    induction m with
    | zero =>
      intro i f hi hf hle
      obtain ⟨f', rfl⟩ : ∃ f', f = f' + 1 := ⟨f - 1, by omega⟩
      obtain rfl : i = n := by omega
      rw [fX4_pair_b8.eq_2, fX1_count.eq_1, bd_s, if_pos (nI_le' (by omega) (Nat.le_refl i))]
      exact ⟨fun _ => rfl, fun z => by omega⟩
    | succ m ih =>
      intro i f hi hf hle
      obtain ⟨f', rfl⟩ : ∃ f', f = f' + 1 := ⟨f - 1, by omega⟩
      rw [fX4_pair_b8.eq_2, fX1_count.eq_1, bd_s, if_neg (nI_nle' (by omega) (by omega)), nI_1]
      have inner : ∀ m2 j p, j + m2 = n → i < j → m2 < p → S i + rk (pairB A B C K X Y D i) j ≤ t → (S n ≤ t → fX4_pair_b24 N (nI n) mt (nI K) (nI t) (nI i) (fun (x4 : Int32) => kk (nI i) x4) (fun (x2 : Int32) => fX4_pair_b8 N (nI n) mt (nI K) (nI t) kk f' x2 (nI (i + 1))) p (nI (S i + rk (pairB A B C K X Y D i) j)) (nI j) = some (.inr (-1))) ∧ (t < S n → ∃ a b, a < b ∧ b < n ∧ fX4_pair_b24 N (nI n) mt (nI K) (nI t) (nI i) (fun (x4 : Int32) => kk (nI i) x4) (fun (x2 : Int32) => fX4_pair_b8 N (nI n) mt (nI K) (nI t) kk f' x2 (nI (i + 1))) p (nI (S i + rk (pairB A B C K X Y D i) j)) (nI j) = some (.inr (nI (2 ^ a ||| 2 ^ b)))) := by
        intro m2
        induction m2 with
        | zero =>
          intro j p hj hij hp' hle'
          obtain ⟨p', rfl⟩ : ∃ f', p = f' + 1 := ⟨p - 1, by omega⟩
          obtain rfl : j = n := by omega
          rw [fX4_pair_b24.eq_2, fX1_count.eq_1, bd_s, if_pos (nI_le' (by omega) (Nat.le_refl j)), ← hS1]
          exact ih (i + 1) f' (by omega) (by omega) (by rw [hS1]; exact hle')
        | succ m2 ih2 =>
          intro j p hj hij hp' hle'
          obtain ⟨p', rfl⟩ : ∃ f', p = f' + 1 := ⟨p - 1, by omega⟩
          rw [fX4_pair_b24.eq_2, fX1_count.eq_1, bd_s, if_neg (nI_nle' (by omega) (by omega)), c_lowP hU hn hN hM hT hK (show i < n by omega) (show j < n by omega) (by omega), bd_s, nI_1, nI_1]
          rcases ho : lowP A B C K X Y D i j with _ | _
          · rw [if_pos b01f]
            have e := rk_f (show pairB A B C K X Y D i j = false by rw [hp i j hij, ho])
            have h2 := ih2 (j + 1) p' (by omega) (by omega) (by omega) (by rw [e]; exact hle')
            rw [e] at h2
            exact h2
          · rw [if_neg b01t]
            have e := rk_t (show pairB A B C K X Y D i j = true by rw [hp i j hij, ho])
            have hlt : rk (pairB A B C K X Y D i) j + 1 ≤ rk (pairB A B C K X Y D i) n := by rw [← e]; exact rk_mono (by omega)
            have hm := hSm (i + 1) (by omega)
            rw [hS1] at hm
            by_cases cc : S i + rk (pairB A B C K X Y D i) j = t
            · rw [if_pos (by rw [cc]), hkk]
              refine ⟨fun z => by omega, fun _ => ⟨i, j, hij, by omega, ?_⟩⟩
              dsimp only
              rw [m_bit N (by omega), bd_s, m_bit N (by omega), bd_s, nI_or]
            · rw [if_neg (by rw [nI_eq (by omega) (by omega)]; exact cc)]
              have h2 := ih2 (j + 1) p' (by omega) (by omega) (by omega) (by rw [e]; omega)
              rw [e] at h2
              exact h2
      have h2 := inner (n - (i + 1)) (i + 1) N (by omega) (by omega) (by omega) (by rw [hz]; exact hle)
      rw [hz, Nat.add_zero] at h2
      exact h2
  have hS0 : S 0 = 0 := by rw [hS]; rfl
  have h := outer n 0 N (by omega) (by omega) (by omega)
  rw [hS0] at h
  exact h
theorem pc_two : ∀ i, i < 9 → ∀ j, j < 9 → i < j → pc (2 ^ i ||| 2 ^ j) = 2 := by decide +kernel
/-! reflections -/
theorem a_mirr (hD : LD n A B C la lb lc) (hR : LR n A B C) (hU : LU n A B C) (hN : 70000 ≤ N) {l m : Nat} (hl : l < n) (hm : m < n) :
    (fX1_mirrored N la lb lc (nI n) (nI l) (nI m) = some (-1) ∧ ∀ i, i < n → ¬ same (A i) (B i) (C i) (rfA A B C l m) (rfB A B C l m) (rfC A B C l m)) ∨ ∃ k, k < n ∧ fX1_mirrored N la lb lc (nI n) (nI l) (nI m) = some (nI k) ∧ same (A k) (B k) (C k) (rfA A B C l m) (rfB A B C l m) (rfC A B C l m) := by
  have hn := hR.1
  obtain ⟨b1, b2, b3, b4⟩ := rf_bd hR hl hm
  obtain ⟨e1, e2, e3⟩ := hD l hl
  obtain ⟨e4, e5, e6⟩ := hD m hm
  have hl9 : l < 9 := by omega
  have hm9 : m < 9 := by omega
  have key : ∀ v, fX1_numberOf N la lb lc (nI n) (iI (rfA A B C l m)) (iI (rfB A B C l m)) (iI (rfC A B C l m)) = some v → fX1_mirrored N la lb lc (nI n) (nI l) (nI m) = some v := by
    intro v hv
    rw [fX1_mirrored.eq_1]
    simp only [rd_9 hl9, rd_9 hm9, nm_s, e1, e2, e3, e4, e5, e6, iI_mul, iI_add, iI_sub, show (2 : Int32) = iI 2 from rfl]
    show bd (fX1_numberOf N la lb lc (nI n) (iI (rfA A B C l m)) (iI (rfB A B C l m)) (iI (rfC A B C l m))) _ = _
    rw [hv, bd_s]
  by_cases hex : ∃ i, i < n ∧ same (A i) (B i) (C i) (rfA A B C l m) (rfB A B C l m) (rfC A B C l m)
  · obtain ⟨k, hk, hsk, hmin⟩ := min_ex n hex
    exact Or.inr ⟨k, hk, key _ (m_numberOf_some hD hR hN b1 b2 b3 hk hsk hmin), hsk⟩
  · have hno : ∀ i, i < n → ¬ same (A i) (B i) (C i) (rfA A B C l m) (rfB A B C l m) (rfC A B C l m) := fun i hi z => hex ⟨i, hi, z⟩
    exact Or.inl ⟨key _ (m_numberOf_none hD hR hN b1 b2 b3 hno), hno⟩
theorem a_refl (hD : LD n A B C la lb lc) (hR : LR n A B C) {l m : Nat} (hl : l < n) (hm : m < n) {v : Int32} (h : fX1_mirrored N la lb lc (nI n) (nI l) (nI m) = some v) : fX4_reflected N la lb lc (nI n) (nI l) (nI m) = some (.inr v) := by
  have hn := hR.1
  rw [fX4_reflected.eq_1, c_checkLine_t N hn hl, bdx_r, c_checkLine_t N hn hm, bdx_r, h, bd_s]
theorem scale_same {u v w P Q R : Int} (h : same u v w P Q R) : (P * P + Q * Q) * u = (u * P + v * Q) * P ∧ (P * P + Q * Q) * v = (u * P + v * Q) * Q ∧ (P * P + Q * Q) * w = (u * P + v * Q) * R := by
  obtain ⟨h1, h2, h3⟩ := h
  refine ⟨?_, ?_, ?_⟩
  · have e : (P * P + Q * Q) * u = P * (u * P) + Q * (u * Q) := by grind
    rw [e, h1]
    grind
  · have e : (P * P + Q * Q) * v = P * (v * P) + Q * (v * Q) := by grind
    rw [e, ← h1]
    grind
  · have e : (P * P + Q * Q) * w = P * (w * P) + Q * (w * Q) := by grind
    rw [e, ← h2, ← h3]
    grind
theorem refl_lin {a b L u v z c s : Int} : L * (s * z - 2 * (u * a + v * b) * c) = s * (L * z) - 2 * ((L * u) * a + (L * v) * b) * c := by grind
theorem refl_back {a b c p q z M s : Int} (hs : s = a * a + b * b) : s * (M * (s * z - 2 * (p * a + q * b) * c)) - 2 * ((M * (s * p - 2 * (p * a + q * b) * a)) * a + (M * (s * q - 2 * (p * a + q * b) * b)) * b) * c = M * s * s * z := by
  subst hs
  grind
/-- a LINE's reflection reflected is the LINE -/
theorem refl_two {a b c p q r u v w s : Int} (hs : s = a * a + b * b) (hne : ¬ (s * p - 2 * (p * a + q * b) * a = 0 ∧ s * q - 2 * (p * a + q * b) * b = 0)) (h : same u v w (s * p - 2 * (p * a + q * b) * a) (s * q - 2 * (p * a + q * b) * b) (s * r - 2 * (p * a + q * b) * c)) :
    same p q r (s * u - 2 * (u * a + v * b) * a) (s * v - 2 * (u * a + v * b) * b) (s * w - 2 * (u * a + v * b) * c) := by
  obtain ⟨P, hP⟩ : ∃ P, P = s * p - 2 * (p * a + q * b) * a := ⟨_, rfl⟩
  obtain ⟨Q, hQ⟩ : ∃ Q, Q = s * q - 2 * (p * a + q * b) * b := ⟨_, rfl⟩
  obtain ⟨R, hR⟩ : ∃ R, R = s * r - 2 * (p * a + q * b) * c := ⟨_, rfl⟩
  rw [← hP, ← hQ] at hne
  rw [← hP, ← hQ, ← hR] at h
  have hL := sq_pos hne
  obtain ⟨h1, h2, h3⟩ := scale_same h
  obtain ⟨L, hL'⟩ : ∃ L, L = P * P + Q * Q := ⟨_, rfl⟩
  obtain ⟨M, hM⟩ : ∃ M, M = u * P + v * Q := ⟨_, rfl⟩
  rw [← hL', ← hM] at h1 h2 h3
  rw [← hL'] at hL
  have f1 : L * (s * u - 2 * (u * a + v * b) * a) = M * s * s * p := by
    rw [refl_lin, h1, h2, hP, hQ]
    exact refl_back hs
  have f2 : L * (s * v - 2 * (u * a + v * b) * b) = M * s * s * q := by
    rw [refl_lin, h1, h2, hP, hQ]
    exact refl_back hs
  have f3 : L * (s * w - 2 * (u * a + v * b) * c) = M * s * s * r := by
    rw [refl_lin, h1, h2, h3, hP, hQ, hR]
    exact refl_back hs
  have sw : ∀ x y z : Int, x * (y * z) = y * (x * z) := fun x y z => by grind
  refine ⟨?_, ?_, ?_⟩
  · apply cmul (c := L) (by omega)
    rw [sw L p, sw L q, f1, f2]
    grind
  · apply cmul (c := L) (by omega)
    rw [sw L p, sw L r, f1, f3]
    grind
  · apply cmul (c := L) (by omega)
    rw [sw L q, sw L r, f2, f3]
    grind
theorem same_cong {a b c p q r u v w : Int} (hne : ¬ (p = 0 ∧ q = 0)) (h1 : same a b c p q r) (h2 : same p q r u v w) : same a b c u v w := by
  obtain ⟨g1, g2, g3⟩ := scale_same h1
  obtain ⟨k1, k2, k3⟩ := h2
  have hL := sq_pos hne
  obtain ⟨L, hL'⟩ : ∃ L, L = p * p + q * q := ⟨_, rfl⟩
  obtain ⟨M, hM⟩ : ∃ M, M = a * p + b * q := ⟨_, rfl⟩
  rw [← hL', ← hM] at g1 g2 g3
  rw [← hL'] at hL
  refine ⟨?_, ?_, ?_⟩
  · apply cmul (c := L) (by omega)
    rw [← Int.mul_assoc, ← Int.mul_assoc, g1, g2, Int.mul_assoc, Int.mul_assoc, k1]
  · apply cmul (c := L) (by omega)
    rw [← Int.mul_assoc, ← Int.mul_assoc, g1, g3, Int.mul_assoc, Int.mul_assoc, k2]
  · apply cmul (c := L) (by omega)
    rw [← Int.mul_assoc, ← Int.mul_assoc, g2, g3, Int.mul_assoc, Int.mul_assoc, k3]
/-- what the law asks of reflections -/
theorem refl_again (hR : LR n A B C) (hU : LU n A B C) {l m k : Nat} (hl : l < n) (hm : m < n) (hk : k < n) (h : same (A k) (B k) (C k) (rfA A B C l m) (rfB A B C l m) (rfC A B C l m)) {i : Nat} (hi : i < n) : same (A i) (B i) (C i) (rfA A B C k m) (rfB A B C k m) (rfC A B C k m) ↔ i = l := by
  have h2 : same (A l) (B l) (C l) (rfA A B C k m) (rfB A B C k m) (rfC A B C k m) := by
    have hb := (rf_bd hR hl hm).2.2.2
    unfold rfA rfB at hb
    unfold rfA rfB rfC at h ⊢
    exact refl_two rfl hb h
  constructor
  · intro z
    exact same_uniq hU (rf_bd hR hk hm).2.2.2 hi hl z h2
  · rintro rfl
    exact h2
theorem refl_own (hU : LU n A B C) (hR : LR n A B C) {l i : Nat} (hl : l < n) (hi : i < n) : same (A i) (B i) (C i) (rfA A B C l l) (rfB A B C l l) (rfC A B C l l) ↔ i = l := by
  have h2 : same (A l) (B l) (C l) (rfA A B C l l) (rfB A B C l l) (rfC A B C l l) := by
    unfold rfA rfB rfC same
    refine ⟨?_, ?_, ?_⟩ <;> grind
  constructor
  · intro z
    exact same_uniq hU (rf_bd hR hl hl).2.2.2 hi hl z h2
  · rintro rfl
    exact h2
end AN
