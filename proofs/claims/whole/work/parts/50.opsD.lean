/-! ===== isKaleidoscope, pairs, pair ===== -/
section OD
variable {n : Nat} {A B C : Nat → Int} {la lb lc da db dc : Nat → Int32} {N : Nat} {K : Nat} {X Y D : Nat → Int} {mx my md mt : Nat → Int32}
theorem o_kal (hD : LD n A B C la lb lc) (hD' : LD n A B C da db dc) (hR : LR n A B C) (hU : LU n A B C) (hN : 70000 ≤ N) (a0 b0 c0 t0 : Int32) :
    ∃ u v, fX4_isKaleidoscope N la lb lc (nI n) = some u ∧ fX5_isKaleidoscope N (nI n) da db dc a0 b0 c0 t0 = some v ∧ u = v.1 := by
  have hn := hR.1
  obtain ⟨w, hw⟩ : ∃ w : Nat → Nat → Int32, w = fun l m => (fX1_mirrored N la lb lc (nI n) (nI l) (nI m)).getD 0 := ⟨_, rfl⟩
  have hc : ∀ l m, l < n → m < n → fX1_mirrored N la lb lc (nI n) (nI l) (nI m) = some (w l m) := by
    intro l m hl hm
    obtain ⟨v, _, _, _, e, -⟩ := both_refl hD hD' hR hU hN hl hm 0 0 0
    rw [hw]
    dsimp only
    rw [e]
    rfl
  have hr : ∀ l m, l < n → m < n → ∀ p q r, ∃ p' q' r', fX5_reflect N (nI n) da db dc p q r (nI l) (nI m) = some (w l m, p', q', r') := by
    intro l m hl hm p q r
    obtain ⟨v, p', q', r', e, e2⟩ := both_refl hD hD' hR hU hN hl hm p q r
    have h := hc l m hl hm
    rw [e] at h
    injection h with h
    rw [← h]
    exact ⟨p', q', r', e2⟩
  have hcls : fX4_isKaleidoscope N la lb lc (nI n) = some (b01 (bP (∀ l, l < n → ∀ m, m < n → w l m ≠ -1))) := by
    rw [fX4_isKaleidoscope.eq_1]
    have hin : ∀ l, l < n → ∀ Kc : Option Int32, ((∃ m, m < n ∧ w l m = -1) → fX4_isKaleidoscope_b15 N la lb lc (nI n) (nI l) Kc N 0 = some 0) ∧ (¬ (∃ m, m < n ∧ w l m = -1) → fX4_isKaleidoscope_b15 N la lb lc (nI n) (nI l) Kc N 0 = Kc) := by
      intro l hl Kc
      rcases loop_find (fun f m => fX4_isKaleidoscope_b15 N la lb lc (nI n) (nI l) Kc f (nI m)) (fun m => w l m = -1) (fun _ => some 0) Kc n
        (fun f => by rw [fX4_isKaleidoscope_b15.eq_2, fX1_count.eq_1, bd_s, if_pos (nI_le' (by omega) (Nat.le_refl n))])
        (fun f m hm h => by rw [fX4_isKaleidoscope_b15.eq_2, fX1_count.eq_1, bd_s, if_neg (nI_nle' (by omega) hm), hc l m hl hm, bd_s, if_pos h, zo_0])
        (fun f m hm h => by rw [fX4_isKaleidoscope_b15.eq_2, fX1_count.eq_1, bd_s, if_neg (nI_nle' (by omega) hm), hc l m hl hm, bd_s, if_neg h, nI_1])
        n N 0 (by omega) (by omega) with ⟨i, -, h1, h2, -, h3⟩ | ⟨h1, h2⟩
      · exact ⟨fun _ => h3, fun z => absurd ⟨i, h1, h2⟩ z⟩
      · exact ⟨fun ⟨i, hi, z⟩ => absurd z (h1 i (Nat.zero_le i) hi), fun _ => h2⟩
    rcases loop_find (fun f l => fX4_isKaleidoscope_b2 N la lb lc (nI n) f (nI l)) (fun l => ∃ m, m < n ∧ w l m = -1) (fun _ => some 0) (some 1) n
      (fun f => by rw [fX4_isKaleidoscope_b2.eq_2, fX1_count.eq_1, bd_s, if_pos (nI_le' (by omega) (Nat.le_refl n)), zo_1])
      (fun f l hl h => by rw [fX4_isKaleidoscope_b2.eq_2, fX1_count.eq_1, bd_s, if_neg (nI_nle' (by omega) hl), (hin l hl _).1 h])
      (fun f l hl h => by rw [fX4_isKaleidoscope_b2.eq_2, fX1_count.eq_1, bd_s, if_neg (nI_nle' (by omega) hl), (hin l hl _).2 h, nI_1])
      n N 0 (by omega) (by omega) with ⟨i, -, h1, ⟨m, hm, h2⟩, -, h3⟩ | ⟨h1, h2⟩
    · rw [bP_f (fun z => z i h1 m hm h2)]; exact h3
    · rw [bP_t (fun l hl m hm z => h1 l (Nat.zero_le l) hl ⟨m, hm, z⟩)]; exact h2
  have href : ∃ p q r, fX5_isKaleidoscope N (nI n) da db dc a0 b0 c0 t0 = some (b01 (bP (∀ l, l < n → ∀ m, m < n → w l m ≠ -1)), p, q, r, 0) := by
    rw [fX5_isKaleidoscope.eq_1]
    obtain ⟨⟨b, p, q, r⟩, h1, e⟩ := loop_ex (fun f l (s : Bool × Int32 × Int32 × Int32) => fX5_isKaleidoscope_b9 N (nI n) da db dc 0 f (b01 s.1) (nI l) s.2.1 s.2.2.1 s.2.2.2) (fun s => some (b01 s.1, s.2.1, s.2.2.1, s.2.2.2, 0)) n
      (fun l s => s.1 = bP (∀ l', l' < l → ∀ m, m < n → w l' m ≠ -1))
      (fun f s hp => by rw [fX5_isKaleidoscope_b9.eq_2, if_pos (nI_le' (by omega) (Nat.le_refl n)), zo_b])
      (fun f l s hl hp => by
        rw [fX5_isKaleidoscope_b9.eq_2, if_neg (nI_nle' (by omega) hl), nI_1]
        obtain ⟨s', g1, e⟩ := loop_ex (fun f' m (s : Bool × Int32 × Int32 × Int32) => fX5_isKaleidoscope_b19 N (nI n) da db dc (nI l) (fun (x1_1109 d_ra_1110 d_rb_1111 d_rc_1112 : Int32) => fX5_isKaleidoscope_b9 N (nI n) da db dc 0 f x1_1109 (nI (l + 1)) d_ra_1110 d_rb_1111 d_rc_1112) f' (b01 s.1) (nI m) s.2.1 s.2.2.1 s.2.2.2) (fun s => fX5_isKaleidoscope_b9 N (nI n) da db dc 0 f (b01 s.1) (nI (l + 1)) s.2.1 s.2.2.1 s.2.2.2) n
          (fun m s => s.1 = (bP (∀ l', l' < l → ∀ m, m < n → w l' m ≠ -1) && bP (∀ m', m' < m → w l m' ≠ -1)))
          (fun f' s hp => by rw [fX5_isKaleidoscope_b19.eq_2, if_pos (nI_le' (by omega) (Nat.le_refl n))])
          (fun f' m s hm hp => by
            obtain ⟨p', q', r', e⟩ := hr l m hl hm s.2.1 s.2.2.1 s.2.2.2
            have e0 : b01 s.1 &&& 0 = b01 (s.1 && false) := bit_and s.1 false
            have e1 : b01 s.1 &&& 1 = b01 (s.1 && true) := bit_and s.1 true
            rw [fX5_isKaleidoscope_b19.eq_2, if_neg (nI_nle' (by omega) hm), e, bd_s, nI_1, e0, e1]
            by_cases c : w l m = -1
            · rw [if_pos c]
              refine ⟨(s.1 && false, p', q', r'), ?_, rfl⟩
              dsimp only
              rw [bP_f (P := ∀ m', m' < m + 1 → w l m' ≠ -1) (fun z => z m (by omega) c), Bool.and_false, Bool.and_false]
            · rw [if_neg c]
              refine ⟨(s.1 && true, p', q', r'), ?_, rfl⟩
              dsimp only
              rw [Bool.and_true, hp]
              congr 1
              apply bP_cong
              constructor
              · intro z m' hm'
                by_cases em : m' = m
                · subst em; exact c
                · exact z m' (by omega)
              · intro z m' hm'
                exact z m' (by omega))
          n N 0 s (by omega) (by omega) (by rw [hp, bP_t (P := ∀ m', m' < 0 → w l m' ≠ -1) (fun m' h => absurd h (Nat.not_lt_zero m')), Bool.and_true])
        refine ⟨s', ?_, e⟩
        rw [g1, Bool.eq_iff_iff, Bool.and_eq_true, bP_iff, bP_iff, bP_iff]
        constructor
        · rintro ⟨z1, z2⟩ l' hl'
          by_cases el : l' = l
          · subst el; exact z2
          · exact z1 l' (by omega)
        · intro z
          exact ⟨fun l' hl' => z l' (by omega), z l (by omega)⟩)
      n N 0 (true, a0, b0, c0) (by omega) (by omega) (by dsimp only; rw [bP_t (fun l' h => absurd h (Nat.not_lt_zero l'))])
    dsimp only at h1 e
    rw [h1] at e
    exact ⟨p, q, r, e⟩
  obtain ⟨p, q, r, href⟩ := href
  exact ⟨_, _, hcls, href, rfl⟩
/-! pairs -/
noncomputable def lowP (A B C : Nat → Int) (K : Nat) (X Y D : Nat → Int) (i j : Nat) : Bool := bP (∃ m, m < K ∧ ht A B C i (X m) (Y m) (D m) = 0 ∧ ht A B C j (X m) (Y m) (D m) = 0 ∧ ∀ l, l < i → ht A B C l (X m) (Y m) (D m) ≠ 0)
theorem one_meet (hU : LU n A B C) (hM : MSp n A B C K X Y D) {i j m m' : Nat} (hi : i < n) (hj : j < n) (hij : i ≠ j) (hm : m < K) (hm' : m' < K) (h1 : ht A B C i (X m) (Y m) (D m) = 0) (h2 : ht A B C j (X m) (Y m) (D m) = 0) (h3 : ht A B C i (X m') (Y m') (D m') = 0) (h4 : ht A B C j (X m') (Y m') (D m') = 0) : m = m' := by
  apply Classical.byContradiction
  intro c
  obtain ⟨c1, -, -⟩ := two_on hU hi hj hij (hM.1 m hm).1.1 h1 h2
  exact RowQ_ne hM hm hm' c (at_eq3 ⟨hi, hj, c1, h1, h2⟩ ⟨hi, hj, c1, h3, h4⟩)
theorem low_bits2 (hn : n ≤ 9) {l : Nat} (hl : l < n) (x y d : Int) : (nI (thrS n A B C x y d) &&& ((1 <<< (nI l &&& 31)) - 1) = 0) ↔ ∀ j, j < l → ht A B C j x y d ≠ 0 := by
  rw [low_bits hn (thrS_lt hn _ _ _) hl]
  constructor
  · intro z j hj w
    have := z j hj
    have h4 : (thrS n A B C x y d).testBit j = true := by rw [thrS_t]; exact ⟨by omega, w⟩
    rw [h4] at this
    cases this
  · intro z j hj
    apply Bool.eq_false_iff.mpr
    intro w
    rw [thrS_t] at w
    exact z j hj w.2
theorem c_lowP (hU : LU n A B C) (hn : n ≤ 9) (hN : 70000 ≤ N) (hM : MSp n A B C K X Y D) (hT : Tp K (fun j => thrS n A B C (X j) (Y j) (D j)) mt) (hK : K ≤ 36) {i j : Nat} (hi : i < n) (hj : j < n) (hij : i ≠ j) : fX2_isLowestPair N mt (nI K) (nI i) (nI j) = some (b01 (lowP A B C K X Y D i j)) := by
  rw [fX2_isLowestPair.eq_1]
  have hon : ∀ m, m < K → ∀ l, l < n → fX2_isOn N mt (nI m) (nI l) = some (b01 (decide (ht A B C l (X m) (Y m) (D m) = 0))) := fun m hm l hl => c_isOn N hn hT hK hm hl
  rcases loop_find (fun f m => fX2_isLowestPair_b2 N mt (nI K) (nI i) (nI j) (fun (x3_346 : Int32) => rd mt 36 x3_346 (fun v_347 => bd (fX4_bit N (nI i)) (fun u_348 => if (v_347 &&& (u_348 - 1)) = 0 then zo 1 (some 1) else zo 0 (some 0)))) f (nI m)) (fun m => ht A B C i (X m) (Y m) (D m) = 0 ∧ ht A B C j (X m) (Y m) (D m) = 0) (fun m => rd mt 36 (nI m) (fun v_347 => bd (fX4_bit N (nI i)) (fun u_348 => if (v_347 &&& (u_348 - 1)) = 0 then zo 1 (some 1) else zo 0 (some 0)))) (some 0) K
    (fun f => by rw [fX2_isLowestPair_b2.eq_2, if_pos (nI_le' (by omega) (Nat.le_refl K)), zo_0])
    (fun f m hm h => by rw [fX2_isLowestPair_b2.eq_2, if_neg (nI_nle' (by omega) hm), hon m hm i hi, bd_s, decide_eq_true h.1, if_neg b01t, hon m hm j hj, bd_s, decide_eq_true h.2, if_neg b01t])
    (fun f m hm h => by
      rw [fX2_isLowestPair_b2.eq_2, if_neg (nI_nle' (by omega) hm), hon m hm i hi, bd_s, nI_1]
      by_cases c : ht A B C i (X m) (Y m) (D m) = 0
      · rw [decide_eq_true c, if_neg b01t, hon m hm j hj, bd_s, decide_eq_false (fun z => h ⟨c, z⟩), if_pos b01f]
      · rw [decide_eq_false c, if_pos b01f])
    K N 0 (by omega) (by omega) with ⟨m, -, h1, h2, -, h3⟩ | ⟨h1, h2⟩
  · have hT' : mt m = nI (thrS n A B C (X m) (Y m) (D m)) := hT m h1
    rw [rd_36 (by omega), hT', m_bit N (by omega), bd_s, ← m_shl (show i < 31 by omega)] at h3
    unfold lowP
    by_cases c : ∀ l, l < i → ht A B C l (X m) (Y m) (D m) ≠ 0
    · rw [if_pos ((low_bits2 hn hi _ _ _).mpr c), zo_1] at h3
      rw [bP_t ⟨m, h1, h2.1, h2.2, c⟩]
      exact h3
    · rw [if_neg (fun z => c ((low_bits2 hn hi _ _ _).mp z)), zo_0] at h3
      rw [bP_f]
      · exact h3
      · rintro ⟨m', a1, a2, a3, a4⟩
        obtain rfl := one_meet hU hM hi hj hij h1 a1 h2.1 h2.2 a2 a3
        exact c a4
  · unfold lowP
    rw [bP_f (fun ⟨m, a1, a2, a3, _⟩ => h1 m (Nat.zero_le m) a1 ⟨a2, a3⟩)]
    exact h2
theorem r_lowP (hD' : LD n A B C da db dc) (hR : LR n A B C) (hN : 70000 ≤ N) (hM : MSp n A B C K X Y D) {x' y' d' : Nat → Int32} (hP : Rp K X Y D x' y' d') (hK : K ≤ 36) {i j : Nat} (hi : i < n) (hj : j < n) : fX5_isPair N (nI n) da db dc (nI K) x' y' d' (nI i) (nI j) = some (b01 (lowP A B C K X Y D i j)) := by
  have hn := hR.1
  rw [fX5_isPair.eq_1]
  have hl := loop_u (fun f k => fX5_isPair_b5 N (nI n) da db dc (nI K) x' y' d' (nI i) (nI j) f (b01 (bP (∃ m, m < k ∧ ht A B C i (X m) (Y m) (D m) = 0 ∧ ht A B C j (X m) (Y m) (D m) = 0 ∧ ∀ l, l < i → ht A B C l (X m) (Y m) (D m) ≠ 0))) (nI k)) (some (b01 (lowP A B C K X Y D i j))) K
    (fun f => by rw [fX5_isPair_b5.eq_2, if_pos (nI_le' (by omega) (Nat.le_refl K)), zo_b]; rfl)
    (fun f k hk => by
      have hs := thrS_lt (A := A) (B := B) (C := C) hn (X k) (Y k) (D k)
      have e0 : ∀ b, b01 b ||| 0 = b01 b := fun b => by cases b <;> decide
      have e1 : ∀ b, b01 b ||| 1 = b01 true := fun b => by cases b <;> decide
      have hno : ¬ (ht A B C i (X k) (Y k) (D k) = 0 ∧ ht A B C j (X k) (Y k) (D k) = 0 ∧ ∀ l, l < i → ht A B C l (X k) (Y k) (D k) ≠ 0) → bP (∃ m, m < k + 1 ∧ ht A B C i (X m) (Y m) (D m) = 0 ∧ ht A B C j (X m) (Y m) (D m) = 0 ∧ ∀ l, l < i → ht A B C l (X m) (Y m) (D m) ≠ 0) = bP (∃ m, m < k ∧ ht A B C i (X m) (Y m) (D m) = 0 ∧ ht A B C j (X m) (Y m) (D m) = 0 ∧ ∀ l, l < i → ht A B C l (X m) (Y m) (D m) ≠ 0) := by
        intro h
        apply bP_cong
        constructor
        · rintro ⟨m, a1, a2⟩
          have : m ≠ k := fun z => h (z ▸ a2)
          exact ⟨m, by omega, a2⟩
        · rintro ⟨m, a1, a2⟩
          exact ⟨m, by omega, a2⟩
      rw [fX5_isPair_b5.eq_2, if_neg (nI_nle' (by omega) hk), r_through hD' hR hM hP hK hN hk, bd_s, nI_1, e0, e1]
      by_cases c1 : ht A B C i (X k) (Y k) (D k) = 0
      · rw [if_pos (by rw [m_shr hs (by omega), thrS_t]; exact ⟨hi, c1⟩)]
        by_cases c2 : ht A B C j (X k) (Y k) (D k) = 0
        · rw [if_pos (by rw [m_shr hs (by omega), thrS_t]; exact ⟨hj, c2⟩)]
          by_cases c3 : ∀ l, l < i → ht A B C l (X k) (Y k) (D k) ≠ 0
          · rw [if_pos ((low_bits2 hn hi _ _ _).mpr c3), bP_t (P := ∃ m, m < k + 1 ∧ ht A B C i (X m) (Y m) (D m) = 0 ∧ ht A B C j (X m) (Y m) (D m) = 0 ∧ ∀ l, l < i → ht A B C l (X m) (Y m) (D m) ≠ 0) ⟨k, by omega, c1, c2, c3⟩]
          · rw [if_neg (fun z => c3 ((low_bits2 hn hi _ _ _).mp z)), hno (fun z => c3 z.2.2)]
        · rw [if_neg (by rw [m_shr hs (by omega), thrS_t]; exact fun z => c2 z.2), hno (fun z => c2 z.2.1)]
      · rw [if_neg (by rw [m_shr hs (by omega), thrS_t]; exact fun z => c1 z.2), hno (fun z => c1 z.1)])
    K N 0 (by omega) (by omega)
  rw [bP_f (P := ∃ m, m < 0 ∧ ht A B C i (X m) (Y m) (D m) = 0 ∧ ht A B C j (X m) (Y m) (D m) = 0 ∧ ∀ l, l < i → ht A B C l (X m) (Y m) (D m) ≠ 0) (fun ⟨m, h, _⟩ => absurd h (Nat.not_lt_zero m))] at hl
  exact hl
theorem rk_none {p : Nat → Bool} : ∀ {m : Nat}, (∀ i, i < m → p i = false) → rk p m = 0
  | 0, _ => rfl
  | m + 1, h => by rw [rk_f (h m (by omega)), rk_none (fun i hi => h i (by omega))]
noncomputable def pairB (A B C : Nat → Int) (K : Nat) (X Y D : Nat → Int) (i j : Nat) : Bool := decide (i < j) && lowP A B C K X Y D i j
theorem nI_a0 (v : Nat) : nI v + 0 = nI v := by rw [show (0 : Int32) = nI 0 from rfl, nI_add, Nat.add_zero]
theorem o_pairs (hD' : LD n A B C da db dc) (hR : LR n A B C) (hU : LU n A B C) (hN : 70000 ≤ N) (hM : MSp n A B C K X Y D) (hT : Tp K (fun j => thrS n A B C (X j) (Y j) (D j)) mt) (hK : K ≤ 36) (k0 : Int32) (x0 y0 d0 : Nat → Int32) (t0 : Int32) :
    ∃ u v, fX4_pairs N (nI n) mt (nI K) = some u ∧ fX5_pairs N (nI n) da db dc k0 x0 y0 d0 t0 = some v ∧ u = v.1 := by
  have hn := hR.1
  obtain ⟨x', y', d', hP, e⟩ := r_findMeets hD' hR hN hM k0 x0 y0 d0
  have hz : ∀ i, rk (pairB A B C K X Y D i) (i + 1) = 0 := fun i => rk_none (fun j hj => by
    unfold pairB
    rw [decide_eq_false (show ¬ i < j by omega), Bool.false_and])
  have hp : ∀ i j, i < j → pairB A B C K X Y D i j = lowP A B C K X Y D i j := fun i j h => by
    unfold pairB
    rw [decide_eq_true h, Bool.true_and]
  have hc : fX4_pairs N (nI n) mt (nI K) = some (nI (sumN (fun i => rk (pairB A B C K X Y D i) n) n)) := by
    rw [fX4_pairs.eq_1]
    exact loop_u (fun f i => fX4_pairs_b4 N (nI n) mt (nI K) f (nI (sumN (fun i => rk (pairB A B C K X Y D i) n) i)) (nI i)) _ n
      (fun f => by rw [fX4_pairs_b4.eq_2, fX1_count.eq_1, bd_s, if_pos (nI_le' (by omega) (Nat.le_refl n))])
      (fun f i hi => by
        rw [fX4_pairs_b4.eq_2, fX1_count.eq_1, bd_s, if_neg (nI_nle' (by omega) hi), nI_1, sumN_s]
        have h := loop_ex (fun f' j (_ : Unit) => fX4_pairs_b19 N (nI n) mt (nI K) (nI i) (fun (x1_1444 : Int32) => fX4_pairs_b4 N (nI n) mt (nI K) f x1_1444 (nI (i + 1))) f' (nI (sumN (fun i => rk (pairB A B C K X Y D i) n) i + rk (pairB A B C K X Y D i) j)) (nI j)) (fun _ => fX4_pairs_b4 N (nI n) mt (nI K) f (nI (sumN (fun i => rk (pairB A B C K X Y D i) n) i + rk (pairB A B C K X Y D i) n)) (nI (i + 1))) n (fun j _ => i < j)
          (fun f' _ _ => by rw [fX4_pairs_b19.eq_2, fX1_count.eq_1, bd_s, if_pos (nI_le' (by omega) (Nat.le_refl n))])
          (fun f' j _ hj hij => by
            refine ⟨(), by omega, ?_⟩
            rw [fX4_pairs_b19.eq_2, fX1_count.eq_1, bd_s, if_neg (nI_nle' (by omega) hj), c_lowP hU hn hN hM hT hK hi hj (by omega), bd_s, nI_1, nI_1]
            rcases ho : lowP A B C K X Y D i j with _ | _
            · rw [if_pos b01f, rk_f (show pairB A B C K X Y D i j = false by rw [hp i j hij, ho])]
            · rw [if_neg b01t, rk_t (show pairB A B C K X Y D i j = true by rw [hp i j hij, ho])]
              rfl)
          (n - (i + 1)) N (i + 1) () (by omega) (by omega) (by omega)
        obtain ⟨_, -, h⟩ := h
        rw [hz, Nat.add_zero] at h
        exact h) n N 0 (by omega) (by omega)
  have hr : ∀ t, fX5_pairs_b13 N (nI n) da db dc (nI K) x' y' d' t N 0 0 = some (nI (sumN (fun i => rk (pairB A B C K X Y D i) n) n), nI K, x', y', d', t) := fun t =>
    loop_u (fun f i => fX5_pairs_b13 N (nI n) da db dc (nI K) x' y' d' t f (nI (sumN (fun i => rk (pairB A B C K X Y D i) n) i)) (nI i)) _ n
      (fun f => by rw [fX5_pairs_b13.eq_2, if_pos (nI_le' (by omega) (Nat.le_refl n))])
      (fun f i hi => by
        rw [fX5_pairs_b13.eq_2, if_neg (nI_nle' (by omega) hi), nI_1, sumN_s]
        have h := loop_ex (fun f' j (_ : Unit) => fX5_pairs_b25 N (nI n) da db dc (nI K) x' y' d' (nI i) (fun (x1_1124 : Int32) => fX5_pairs_b13 N (nI n) da db dc (nI K) x' y' d' t f x1_1124 (nI (i + 1))) f' (nI (sumN (fun i => rk (pairB A B C K X Y D i) n) i + rk (pairB A B C K X Y D i) j)) (nI j)) (fun _ => fX5_pairs_b13 N (nI n) da db dc (nI K) x' y' d' t f (nI (sumN (fun i => rk (pairB A B C K X Y D i) n) i + rk (pairB A B C K X Y D i) n)) (nI (i + 1))) n (fun j _ => i < j)
          (fun f' _ _ => by rw [fX5_pairs_b25.eq_2, if_pos (nI_le' (by omega) (Nat.le_refl n))])
          (fun f' j _ hj hij => by
            refine ⟨(), by omega, ?_⟩
            rw [fX5_pairs_b25.eq_2, if_neg (nI_nle' (by omega) hj), r_lowP hD' hR hN hM hP hK hi hj, bd_s, nI_1, nI_1, nI_a0]
            rcases ho : lowP A B C K X Y D i j with _ | _
            · rw [if_pos b01f, rk_f (show pairB A B C K X Y D i j = false by rw [hp i j hij, ho])]
            · rw [if_neg b01t, rk_t (show pairB A B C K X Y D i j = true by rw [hp i j hij, ho])]
              rfl)
          (n - (i + 1)) N (i + 1) () (by omega) (by omega) (by omega)
        obtain ⟨_, -, h⟩ := h
        rw [hz, Nat.add_zero] at h
        exact h) n N 0 (by omega) (by omega)
  rw [hc, fX5_pairs.eq_1, e, bd_s]
  dsimp only
  rw [hr]
  exact ⟨_, _, rfl, rfl, rfl⟩
theorem sub_one_more (x : Int32) (c : Nat) : x - nI c + (-1) = x - nI (c + 1) := by
  rw [← nI_1, Int32.sub_eq_add_neg, Int32.sub_eq_add_neg, Int32.neg_add, Int32.add_assoc, Int32.sub_eq_add_neg]
theorem sub_zero_iff (x : Int32) (c : Nat) : (x - nI c = 0) ↔ (nI c = x) := by
  constructor
  · intro h
    have : x = nI c := by
      have := congrArg (· + nI c) h
      simpa using this
    exact this.symm
  · intro h
    rw [h, Int32.sub_self]
theorem o_pair (hD' : LD n A B C da db dc) (hR : LR n A B C) (hU : LU n A B C) (hN : 70000 ≤ N) (hM : MSp n A B C K X Y D) (hT : Tp K (fun j => thrS n A B C (X j) (Y j) (D j)) mt) (hK : K ≤ 36) (k0 : Int32) (x0 y0 d0 : Nat → Int32) (t0 : Int32) (o : Nat → Int64) (x1 : Int32) :
    ∃ u v, fL_pair N (nI n) mt (nI K) o x1 = some u ∧ fX5_pair N (nI n) da db dc k0 x0 y0 d0 t0 x1 = some v ∧ v.2.2.2.2.2 = u.1 ∧ (u.1 = 0 → u.2 0 = Int32.toInt64 v.1) := by
  have hn := hR.1
  rw [fL_pair.eq_1, fX4_pair.eq_1, fX5_pair.eq_1, fX4_checkPlace.eq_1]
  by_cases c : x1 < 0
  · have c2 : ¬ (0 : Int32) ≤ x1 := by rw [Int32.le_iff_toInt_le]; rw [Int32.lt_iff_toInt_lt] at c; omega
    rw [if_neg c2, bdx_l, bdc_l, if_pos rfl, if_pos c, fX5_pair_b10.eq_1, f_f', bd_s, if_neg b01t]
    exact ⟨_, _, rfl, rfl, rfl, fun z => absurd z one_ne0⟩
  · have c2 : (0 : Int32) ≤ x1 := by rw [Int32.le_iff_toInt_le]; rw [Int32.lt_iff_toInt_lt] at c; omega
    obtain ⟨x', y', d', hP, e⟩ := r_findMeets hD' hR hN hM k0 x0 y0 d0
    rw [if_pos c2, bdx_r, if_neg c, fX5_pair_b10.eq_1, f_t', bd_s, if_pos b01f, e, bd_s]
    dsimp only
    obtain ⟨kk, hkk⟩ : ∃ kk : Int32 → Int32 → Option (String ⊕ Int32), kk = (fun (x3_1459 : Int32) (x4_1460 : Int32) => bd (fX4_bit N x3_1459) (fun u_1461 => bd (fX4_bit N x4_1460) (fun u_1463 => some (.inr ((u_1461 ||| u_1463)))))) := ⟨_, rfl⟩
    rw [← hkk]
    -- the two loops go in step
    have outer : ∀ m i f g c, i + m = n → m < f → m < g → ∃ val, fX4_pair_b8 N (nI n) mt (nI K) x1 kk f (nI c) (nI i) = some (.inr val) ∧ fX5_pair_b27 N (nI n) da db dc (nI K) x' y' d' 0 g (x1 - nI c) (nI i) = some (val, nI K, x', y', d', 0) := by
      intro m
      induction m with
      | zero =>
        intro i f g c hi hf hg
        obtain ⟨f', rfl⟩ : ∃ f', f = f' + 1 := ⟨f - 1, by omega⟩
        obtain ⟨g', rfl⟩ : ∃ f', g = f' + 1 := ⟨g - 1, by omega⟩
        obtain rfl : i = n := by omega
        rw [fX4_pair_b8.eq_2, fX1_count.eq_1, bd_s, if_pos (nI_le' (by omega) (Nat.le_refl i)), fX5_pair_b27.eq_2, if_pos (nI_le' (by omega) (Nat.le_refl i))]
        exact ⟨_, rfl, rfl⟩
      | succ m ih =>
        intro i f g c hi hf hg
        obtain ⟨f', rfl⟩ : ∃ f', f = f' + 1 := ⟨f - 1, by omega⟩
        obtain ⟨g', rfl⟩ : ∃ f', g = f' + 1 := ⟨g - 1, by omega⟩
        rw [fX4_pair_b8.eq_2, fX1_count.eq_1, bd_s, if_neg (nI_nle' (by omega) (by omega)), fX5_pair_b27.eq_2, if_neg (nI_nle' (by omega) (by omega)), nI_1]
        have inner : ∀ m2 j p q c, j + m2 = n → i < j → m2 < p → m2 < q → ∃ val, fX4_pair_b24 N (nI n) mt (nI K) x1 (nI i) (fun (x4_1455 : Int32) => kk (nI i) x4_1455) (fun (x2_1456 : Int32) => fX4_pair_b8 N (nI n) mt (nI K) x1 kk f' x2_1456 (nI (i + 1))) p (nI c) (nI j) = some (.inr val) ∧ fX5_pair_b40 N (nI n) da db dc (nI K) x' y' d' 0 (nI i) (fun (x2_1133 : Int32) => fX5_pair_b27 N (nI n) da db dc (nI K) x' y' d' 0 g' x2_1133 (nI (i + 1))) q (x1 - nI c) (nI j) = some (val, nI K, x', y', d', 0) := by
          intro m2
          induction m2 with
          | zero =>
            intro j p q c hj hij hp hq
            obtain ⟨p', rfl⟩ : ∃ f', p = f' + 1 := ⟨p - 1, by omega⟩
            obtain ⟨q', rfl⟩ : ∃ f', q = f' + 1 := ⟨q - 1, by omega⟩
            obtain rfl : j = n := by omega
            rw [fX4_pair_b24.eq_2, fX1_count.eq_1, bd_s, if_pos (nI_le' (by omega) (Nat.le_refl j)), fX5_pair_b40.eq_2, if_pos (nI_le' (by omega) (Nat.le_refl j))]
            exact ih (i + 1) f' g' c (by omega) (by omega) (by omega)
          | succ m2 ih2 =>
            intro j p q c hj hij hp hq
            obtain ⟨p', rfl⟩ : ∃ f', p = f' + 1 := ⟨p - 1, by omega⟩
            obtain ⟨q', rfl⟩ : ∃ f', q = f' + 1 := ⟨q - 1, by omega⟩
            rw [fX4_pair_b24.eq_2, fX1_count.eq_1, bd_s, if_neg (nI_nle' (by omega) (by omega)), c_lowP hU hn hN hM hT hK (show i < n by omega) (show j < n by omega) (by omega), bd_s, fX5_pair_b40.eq_2, if_neg (nI_nle' (by omega) (by omega)), r_lowP hD' hR hN hM hP hK (show i < n by omega) (show j < n by omega), bd_s, nI_1, nI_1]
            rcases ho : lowP A B C K X Y D i j with _ | _
            · rw [if_pos b01f, if_pos b01f]
              exact ih2 (j + 1) p' q' c (by omega) (by omega) (by omega) (by omega)
            · rw [if_neg b01t, if_neg b01t]
              by_cases cc : nI c = x1
              · rw [if_pos cc, if_pos ((sub_zero_iff x1 c).mpr cc), hkk]
                dsimp only
                rw [m_bit N (by omega), bd_s, m_bit N (by omega), bd_s, m_shl (by omega), m_shl (by omega)]
                exact ⟨_, rfl, rfl⟩
              · rw [if_neg cc, if_neg (fun z => cc ((sub_zero_iff x1 c).mp z)), sub_one_more]
                exact ih2 (j + 1) p' q' (c + 1) (by omega) (by omega) (by omega) (by omega)
        exact inner (n - (i + 1)) (i + 1) N N c (by omega) (by omega) (by omega) (by omega)
    obtain ⟨val, v1, v2⟩ := outer n 0 N N 0 (by omega) (by omega) (by omega)
    rw [show x1 - nI 0 = x1 from Int32.sub_zero x1] at v2
    rw [show nI 0 = (0 : Int32) from rfl] at v1 v2
    rw [v1, v2, bdc_r]
    exact ⟨_, _, rfl, rfl, rfl, fun _ => updL0 o _⟩
end OD
