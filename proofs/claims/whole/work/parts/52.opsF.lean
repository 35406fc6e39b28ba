/-! ===== room, roomOf, corner, project, best ===== -/
section OF
variable {n : Nat} {A B C : Nat → Int} {la lb lc da db dc : Nat → Int32} {N : Nat} {K : Nat} {X Y D : Nat → Int} {mx my md mt mv rs rn : Nat → Int32} {x' y' d' r' : Nat → Int32} {rk_ : Int32}
noncomputable def corN (n : Nat) (A B C : Nat → Int) (X Y D : Nat → Int) (s m : Nat) : Bool := corB n A B C s (X m) (Y m) (D m)
theorem c_corners (hn : n ≤ 9) (hN : 70000 ≤ N) (hT : Tp K (fun j => thrS n A B C (X j) (Y j) (D j)) mt) (hV : Tp K (fun j => abvS n A B C (X j) (Y j) (D j)) mv) (hK : K ≤ 36) {s : Nat} (hs : s < 512) (hsn : s < 2 ^ n) : fX2_cornersOf N mt mv (nI K) (nI s) = some (nI (rk (corN n A B C X Y D s) K)) := by
  rw [fX2_cornersOf.eq_1]
  exact loop_u (fun f j => fX2_cornersOf_b4 N mt mv (nI K) (nI s) f (nI (rk (corN n A B C X Y D s) j)) (nI j)) _ K
    (fun f => by rw [fX2_cornersOf_b4.eq_2, if_pos (nI_le' (by omega) (Nat.le_refl K))])
    (fun f j hj => by
      rw [fX2_cornersOf_b4.eq_2, if_neg (nI_nle' (by omega) hj), c_isCorner hn hT hV hK N hj hs hsn, bd_s, nI_1, nI_1]
      rcases hc : corB n A B C s (X j) (Y j) (D j) with _ | _
      · rw [if_pos b01f, rk_f (show corN n A B C X Y D s j = false from hc)]
      · rw [if_neg b01t, rk_t (show corN n A B C X Y D s j = true from hc)]) K N 0 (by omega) (by omega)
theorem r_corners (hD' : LD n A B C da db dc) (hR : LR n A B C) (hM : MSp n A B C K X Y D) (hP : Rp K X Y D x' y' d') (hK : K ≤ 36) (hN : 70000 ≤ N) {s : Nat} (hs : s < 512) (Kc : Int32 → Option (Int32 × Int32 × (Nat → Int32) × (Nat → Int32) × (Nat → Int32) × (Nat → Int32) × Int32)) : fX5_room_b118 N (nI n) da db dc (nI K) x' y' d' (nI s) Kc N 0 0 = Kc (nI (rk (corN n A B C X Y D s) K)) :=
  loop_u (fun f j => fX5_room_b118 N (nI n) da db dc (nI K) x' y' d' (nI s) Kc f (nI (rk (corN n A B C X Y D s) j)) (nI j)) _ K
    (fun f => by rw [fX5_room_b118.eq_2, if_pos (nI_le' (by omega) (Nat.le_refl K))])
    (fun f j hj => by
      rw [fX5_room_b118.eq_2, if_neg (nI_nle' (by omega) hj), r_isCorner hD' hR hM hP hK hN hj hs, bd_s, nI_1, nI_1, nI_a0]
      rcases hc : corB n A B C s (X j) (Y j) (D j) with _ | _
      · rw [if_pos b01f, rk_f (show corN n A B C X Y D s j = false from hc)]
      · rw [if_neg b01t, rk_t (show corN n A B C X Y D s j = true from hc)]) K N 0 (by omega) (by omega)
theorem o_room (hD : LD n A B C la lb lc) (hD' : LD n A B C da db dc) (hR : LR n A B C) (hU : LU n A B C) (hN : 70000 ≤ N) (hM : MSp n A B C K X Y D) (hT : Tp K (fun j => thrS n A B C (X j) (Y j) (D j)) mt) (hV : Tp K (fun j => abvS n A B C (X j) (Y j) (D j)) mv) (hK : K ≤ 36) (hRN : RN n A B C rs rn rk_) (k0 : Int32) (x0 y0 d0 r0 : Nat → Int32) (t0 : Int32) (o : Nat → Int64) (x1 x2 : Int32) :
    ∃ u v, fL_room N la lb (nI n) mt mv (nI K) rs rn rk_ o x1 x2 = some u ∧ fX5_room N (nI n) da db dc k0 x0 y0 d0 r0 t0 x1 x2 = some v ∧ v.2.2.2.2.2.2 = u.1 ∧ (u.1 = 0 → u.2 0 = Int32.toInt64 v.1) := by
  have hn := hR.1
  have h46 := cnt_512 (C := C) hR.1 (LR_n0 hR)
  obtain ⟨x', y', d', r', hP, hr, rt, rf⟩ := r_roomIs hD' hR hU hN hM hK k0 x0 y0 d0 r0
  obtain ⟨h1, h2, h3⟩ := id hRN
  rw [fL_room.eq_1, fX4_room.eq_1, fX5_room.eq_1, h1]
  rcases idx x1 (K := rk (rB n A B C) 512) (by omega) with ⟨i, hi, rfl⟩ | hb
  · obtain ⟨s, hs, hp, rfl⟩ := room_ex hi
    have hsn := real_lt (rB_t.mp hp)
    have hrs := h3 s hs hp
    rw [c_checkRoom_t N h46 hi, bdx_r, rt _ hi, bd_s, f_t, bd_s, if_pos b01f]
    dsimp only
    rw [r_setOf hr hN hs hp, bd_s]
    rcases idx x2 (K := 4) (by omega) with ⟨w, hw, rfl⟩ | hb
    · rw [in4t N hw, bd_s, f_t, bd_s, if_pos b01f]
      obtain rfl | rfl | rfl | rfl : w = 0 ∨ w = 1 ∨ w = 2 ∨ w = 3 := by omega
      · simp (disch := decide) only [if_pos, if_neg]
        rw [fX3_set.eq_1, rd_46 (by omega), hrs, bd_s, bdc_r]
        exact ⟨_, _, rfl, rfl, rfl, fun _ => updL0 o _⟩
      · simp (disch := decide) only [if_pos, if_neg]
        rw [c_isBounded hD hR hN (by omega) hs hrs, bd_s, r_isBounded hD' hR hN hs, bd_s]
        rcases bdd n A B s with _ | _
        · rw [if_pos b01f, if_pos b01f, bdc_r]
          exact ⟨_, _, rfl, rfl, rfl, fun _ => updL0 o _⟩
        · rw [if_neg b01t, if_neg b01t, bdc_r]
          exact ⟨_, _, rfl, rfl, rfl, fun _ => updL0 o _⟩
      · simp (disch := decide) only [if_pos, if_neg]
        rw [c_walls hn hN hRN (by omega) hs hsn hrs, bd_s, bdc_r, r_walls' hr hn hN hs, r_corners hD' hR hM hP hK hN hs]
        exact ⟨_, _, rfl, rfl, rfl, fun _ => updL0 o _⟩
      · simp (disch := decide) only [if_pos, if_neg]
        rw [fX3_set.eq_1, rd_46 (by omega), hrs, bd_s, c_corners hn hN hT hV hK hs hsn, bd_s, bdc_r, r_walls' hr hn hN hs, r_corners hD' hR hM hP hK hN hs]
        exact ⟨_, _, rfl, rfl, rfl, fun _ => updL0 o _⟩
    · have g0 := bad_ne hb (i := 0) (by omega) (by omega)
      have g1 := bad_ne hb (i := 1) (by omega) (by omega)
      have g2 := bad_ne hb (i := 2) (by omega) (by omega)
      have g3 := bad_ne hb (i := 3) (by omega) (by omega)
      rw [in4f N hb, bd_s, f_f, bd_s, if_neg b01t, if_neg (show ¬ x2 = 0 from g0), if_neg (show ¬ x2 = 1 from g1), if_neg (show ¬ x2 = 2 from g2), if_neg (show ¬ x2 = 3 from g3), bdc_l, if_neg xne1, if_pos rfl]
      exact ⟨_, _, rfl, rfl, rfl, fun z => absurd z two_ne0⟩
  · rw [c_checkRoom_f N hb, bdx_l, bdc_l, if_pos rfl, rf _ hb, bd_s, f_f, bd_s, if_neg b01t]
    exact ⟨_, _, rfl, rfl, rfl, fun z => absurd z one_ne0⟩
theorem in512t (N : Nat) {w : Nat} (h : w < 512) : fX5_in N (nI w) 0 511 = some (b01 true) := in_t (K := 512) N h (by omega)
theorem in512f (N : Nat) {x : Int32} (h : bad x 512) : fX5_in N x 0 511 = some (b01 false) := in_f (K := 512) N h (by omega)
theorem o_roomOf (hD' : LD n A B C da db dc) (hR : LR n A B C) (hU : LU n A B C) (hN : 70000 ≤ N) (hM : MSp n A B C K X Y D) (hK : K ≤ 36) (hRN : RN n A B C rs rn rk_) (k0 : Int32) (x0 y0 d0 r0 : Nat → Int32) (t0 : Int32) (o : Nat → Int64) (x1 : Int32) :
    ∃ u v, fL_roomOf N rn o x1 = some u ∧ fX5_roomOf N (nI n) da db dc k0 x0 y0 d0 r0 t0 x1 = some v ∧ v.2.2.2.2.2.2 = u.1 ∧ (u.1 = 0 → u.2 0 = Int32.toInt64 v.1) := by
  rw [fL_roomOf.eq_1, fX4_roomOf.eq_1, fX5_roomOf.eq_1]
  rcases idx x1 (K := 512) (by omega) with ⟨s, hs, rfl⟩ | hb
  · obtain ⟨x', y', d', r', hP, hr, e⟩ := r_findRooms hD' hR hU hN hM hK k0 x0 y0 d0 r0
    rw [in512t N hs, bd_s, f_t, bd_s, if_pos b01f, e, bd_s, if_neg (idx_lt0 hs (by omega)), if_pos (show nI s < (512 : Int32) from idx_ltK (K := 512) hs (by omega)), fX3_numberOf.eq_1, rd_512 hs, bd_s, bdc_r, hRN.2.1 s hs]
    dsimp only
    rw [rd_512 hs, hr s hs]
    rcases hp : rB n A B C s with _ | _
    · rw [if_pos b01f]
      exact ⟨_, _, rfl, rfl, rfl, fun _ => updL0 o _⟩
    · rw [if_neg b01t, r_numberOf (p := rB n A B C) hr hN (by omega), bd_s]
      exact ⟨_, _, rfl, rfl, rfl, fun _ => updL0 o _⟩
  · rw [in512f N hb, bd_s, f_f, bd_s, if_neg b01t]
    have e : (if x1 < 0 then some (Sum.inl xIAE) else if x1 < 512 then bd (fX3_numberOf N rn x1) (fun u_1368 => some (Sum.inr u_1368)) else some (Sum.inl xIAE)) = some (Sum.inl xIAE : String ⊕ Int32) := by
      by_cases c : x1 < 0
      · rw [if_pos c]
      · rw [if_neg c, if_neg (show ¬ x1 < (512 : Int32) from bad_K (K := 512) hb c)]
    rw [e, bdc_l, if_pos rfl]
    exact ⟨_, _, rfl, rfl, rfl, fun z => absurd z one_ne0⟩
theorem o_corner (hD' : LD n A B C da db dc) (hR : LR n A B C) (hU : LU n A B C) (hN : 70000 ≤ N) (hM : MSp n A B C K X Y D) (hT : Tp K (fun j => thrS n A B C (X j) (Y j) (D j)) mt) (hV : Tp K (fun j => abvS n A B C (X j) (Y j) (D j)) mv) (hK : K ≤ 36) (hRN : RN n A B C rs rn rk_) (k0 : Int32) (x0 y0 d0 r0 : Nat → Int32) (t0 : Int32) (o : Nat → Int64) (x1 x2 : Int32) :
    ∃ u v, fL_corner N mt mv (nI K) rs rk_ o x1 x2 = some u ∧ fX5_corner N (nI n) da db dc k0 x0 y0 d0 r0 t0 x1 x2 = some v ∧ v.2.2.2.2.2.2 = u.1 ∧ (u.1 = 0 → u.2 0 = Int32.toInt64 v.1) := by
  have hn := hR.1
  have h46 := cnt_512 (C := C) hR.1 (LR_n0 hR)
  obtain ⟨x', y', d', r', hP, hr, rt, rf⟩ := r_roomIs hD' hR hU hN hM hK k0 x0 y0 d0 r0
  obtain ⟨h1, h2, h3⟩ := id hRN
  rw [fL_corner.eq_1, fX4_corner.eq_1, fX5_corner.eq_1, h1]
  rcases idx x1 (K := rk (rB n A B C) 512) (by omega) with ⟨i, hi, rfl⟩ | hb
  · obtain ⟨s, hs, hp, rfl⟩ := room_ex hi
    have hsn := real_lt (rB_t.mp hp)
    have hrs := h3 s hs hp
    rw [c_checkRoom_t N h46 hi, bdx_r, rt _ hi, bd_s, f_t, bd_s, if_pos b01f]
    dsimp only
    rw [r_setOf hr hN hs hp, bd_s, fX4_checkPlace.eq_1]
    by_cases c : x2 < 0
    · have c2 : ¬ (0 : Int32) ≤ x2 := by rw [Int32.le_iff_toInt_le]; rw [Int32.lt_iff_toInt_lt] at c; omega
      rw [if_neg c2, bdx_l, bdc_l, if_pos rfl, if_pos c, fX5_corner_b31.eq_1, f_f', bd_s, if_neg b01t]
      exact ⟨_, _, rfl, rfl, rfl, fun z => absurd z one_ne0⟩
    · have c2 : (0 : Int32) ≤ x2 := by rw [Int32.le_iff_toInt_le]; rw [Int32.lt_iff_toInt_lt] at c; omega
      rw [if_pos c2, bdx_r, if_neg c, fX5_corner_b31.eq_1, f_t', bd_s, if_pos b01f, fX3_set.eq_1, rd_46 (by omega), hrs, bd_s, fX2_cornerAt.eq_1]
      have step : ∀ m j f g c, j + m = K → m < f → m < g → ∃ val, fX2_cornerAt_b5 N mt mv (nI K) (nI s) x2 f (nI c) (nI j) = some val ∧ fX5_corner_b46 N (nI n) da db dc (nI K) x' y' d' r' 0 (nI s) g (x2 - nI c) (nI j) = some (val, nI K, x', y', d', r', 0) := by
        intro m
        induction m with
        | zero =>
          intro j f g c hj hf hg
          obtain ⟨f', rfl⟩ : ∃ f', f = f' + 1 := ⟨f - 1, by omega⟩
          obtain ⟨g', rfl⟩ : ∃ f', g = f' + 1 := ⟨g - 1, by omega⟩
          obtain rfl : j = K := by omega
          rw [fX2_cornerAt_b5.eq_2, if_pos (nI_le' (by omega) (Nat.le_refl j)), fX5_corner_b46.eq_2, if_pos (nI_le' (by omega) (Nat.le_refl j))]
          exact ⟨_, rfl, rfl⟩
        | succ m ih =>
          intro j f g c hj hf hg
          obtain ⟨f', rfl⟩ : ∃ f', f = f' + 1 := ⟨f - 1, by omega⟩
          obtain ⟨g', rfl⟩ : ∃ f', g = f' + 1 := ⟨g - 1, by omega⟩
          rw [fX2_cornerAt_b5.eq_2, if_neg (nI_nle' (by omega) (by omega)), c_isCorner hn hT hV hK N (show j < K by omega) hs hsn, bd_s, fX5_corner_b46.eq_2, if_neg (nI_nle' (by omega) (by omega)), r_isCorner hD' hR hM hP hK hN (show j < K by omega) hs, bd_s, nI_1, nI_1]
          rcases corB n A B C s (X j) (Y j) (D j) with _ | _
          · rw [if_pos b01f, if_pos b01f]
            exact ih (j + 1) f' g' c (by omega) (by omega) (by omega)
          · rw [if_neg b01t, if_neg b01t]
            by_cases cc : nI c = x2
            · rw [if_pos cc, if_pos ((sub_zero_iff x2 c).mpr cc)]
              exact ⟨_, rfl, rfl⟩
            · rw [if_neg cc, if_neg (fun z => cc ((sub_zero_iff x2 c).mp z)), sub_one_more]
              exact ih (j + 1) f' g' (c + 1) (by omega) (by omega) (by omega)
      obtain ⟨val, v1, v2⟩ := step K 0 N N 0 (by omega) (by omega) (by omega)
      rw [show x2 - nI 0 = x2 from Int32.sub_zero x2] at v2
      rw [show nI 0 = (0 : Int32) from rfl] at v1 v2
      rw [v1, v2, bd_s, bdc_r]
      exact ⟨_, _, rfl, rfl, rfl, fun _ => updL0 o _⟩
  · rw [c_checkRoom_f N hb, bdx_l, bdc_l, if_pos rfl, rf _ hb, bd_s, f_f, bd_s, if_neg b01t]
    exact ⟨_, _, rfl, rfl, rfl, fun z => absurd z one_ne0⟩
/-! project -/
theorem prj_real (hM : MSp n A B C K X Y D) {m s : Nat} (hm : m < K) (h : Real n A B C s) : Real n A B C (prj n A B C s (X m) (Y m) (D m)) := by
  obtain ⟨x, y, d, ⟨hd, ho⟩, rfl⟩ := h
  obtain ⟨hr, -⟩ := hM.1 m hm
  have hev : Ev (fun T => ∀ j, j < n → (0 < ht A B C j (X m) (Y m) (D m) → 0 < (T : Int) * ht A B C j (X m) (Y m) (D m) + 1 * ht A B C j x y d) ∧ (ht A B C j (X m) (Y m) (D m) < 0 → (T : Int) * ht A B C j (X m) (Y m) (D m) + 1 * ht A B C j x y d < 0)) := by
    refine Ev.all n (fun j hj => ?_)
    rcases Int.lt_trichotomy (ht A B C j (X m) (Y m) (D m)) 0 with c | c | c
    · exact (ev_lin_neg (b := 1 * ht A B C j x y d) c).mono (fun T hT => ⟨fun z => by omega, fun _ => hT⟩)
    · exact Ev.tr (fun T => ⟨fun z => by omega, fun z => by omega⟩)
    · exact (ev_lin_pos (b := 1 * ht A B C j x y d) c).mono (fun T hT => ⟨fun _ => hT, fun z => by omega⟩)
  obtain ⟨T, hT, hT2⟩ := hev.ex
  refine ⟨(T : Int) * X m + 1 * x, (T : Int) * Y m + 1 * y, (T : Int) * D m + 1 * d, ⟨?_, fun l hl => ?_⟩, ?_⟩
  · have := Int.mul_pos (show 0 < (T : Int) by omega) hr.1
    omega
  · rw [ht_comb]
    have h1 := ho l hl
    have h2 := hT2 l hl
    rcases Int.lt_trichotomy (ht A B C l (X m) (Y m) (D m)) 0 with c | c | c
    · have := h2.2 c; omega
    · rw [c]; simp; exact h1
    · have := h2.1 c; omega
  · apply Nat.eq_of_testBit_eq
    intro l
    rw [Bool.eq_iff_iff, prj_t, abvS_t, abvS_t, ht_comb]
    constructor
    · rintro ⟨hl, z⟩
      refine ⟨hl, ?_⟩
      rcases z with ⟨⟨-, z1⟩, z2⟩ | z
      · rw [z2]; simp; exact z1
      · exact (hT2 l hl).1 z
    · rintro ⟨hl, z⟩
      refine ⟨hl, ?_⟩
      have h2 := hT2 l hl
      rcases Int.lt_trichotomy (ht A B C l (X m) (Y m) (D m)) 0 with c | c | c
      · have := h2.2 c; omega
      · rw [c] at z
        simp at z
        exact Or.inl ⟨⟨hl, z⟩, c⟩
      · exact Or.inr c
theorem prj_b {s : Nat} (x y d : Int) : prj n A B C s x y d = bset (fun k => decide (0 < ht A B C k x y d ∨ (ht A B C k x y d = 0 ∧ s.testBit k = true))) n := by
  apply Nat.eq_of_testBit_eq
  intro l
  rw [Bool.eq_iff_iff, prj_t, bset_test, Bool.and_eq_true, decide_eq_true_eq, decide_eq_true_eq]
  constructor
  · rintro ⟨h1, ⟨h2, h3⟩ | h2⟩
    · exact ⟨h1, Or.inr ⟨h3, h2⟩⟩
    · exact ⟨h1, Or.inl h2⟩
  · rintro ⟨h1, h2 | ⟨h2, h3⟩⟩
    · exact ⟨h1, Or.inr h2⟩
    · exact ⟨h1, Or.inl ⟨h3, h2⟩⟩
theorem r_prj (hD' : LD n A B C da db dc) (hR : LR n A B C) (hM : MSp n A B C K X Y D) (hP : Rp K X Y D x' y' d') (hK : K ≤ 36) (hN : 70000 ≤ N) {m s : Nat} (hm : m < K) (hs : s < 512) (Kc : Int32 → Option (Int32 × Int32 × (Nat → Int32) × (Nat → Int32) × (Nat → Int32) × (Nat → Int32) × Int32)) : fX5_project_b48 N (nI n) da db dc x' y' d' (nI m) (nI s) Kc N 0 0 = Kc (nI (prj n A B C s (X m) (Y m) (D m))) := by
  have hn := hR.1
  rw [prj_b]
  refine loop_it (fun f j (t : Nat) => fX5_project_b48 N (nI n) da db dc x' y' d' (nI m) (nI s) Kc f (nI t) (nI j)) (fun t => Kc (nI t)) (fun k t => if decide (0 < ht A B C k (X m) (Y m) (D m) ∨ (ht A B C k (X m) (Y m) (D m) = 0 ∧ s.testBit k = true)) then t ||| 2 ^ k else t) n ?_ ?_ (by omega) 0
  · intro f t
    show fX5_project_b48 N (nI n) da db dc x' y' d' (nI m) (nI s) Kc (f + 1) (nI t) (nI n) = _
    rw [fX5_project_b48.eq_2, if_pos (nI_le' (by omega) (Nat.le_refl n))]
  · intro f j t hj
    show fX5_project_b48 N (nI n) da db dc x' y' d' (nI m) (nI s) Kc (f + 1) (nI t) (nI j) = fX5_project_b48 N (nI n) da db dc x' y' d' (nI m) (nI s) Kc f (nI _) (nI (j + 1))
    have e0 : nI t ||| 0 = nI t := by rw [show (0 : Int32) = nI 0 from rfl, nI_or, Nat.or_zero]
    have hss := sm_sg (ht A B C j (X m) (Y m) (D m))
    rw [fX5_project_b48.eq_2, if_neg (nI_nle' (by omega) hj), r_side hD' hR hM hP hK N hj hm, bd_s, nI_1, e0, m_shl (by omega), nI_or, nm_s]
    by_cases c : 0 < ht A B C j (X m) (Y m) (D m)
    · rw [if_pos (by rw [iI_gt0 hss, sg_pos]; exact c), decide_eq_true (Or.inl c), if_pos rfl]
    · rw [if_neg (by rw [iI_gt0 hss, sg_pos]; exact c)]
      by_cases c2 : ht A B C j (X m) (Y m) (D m) = 0
      · rw [if_pos (by rw [iI_eq0 hss, sg_0]; exact c2)]
        by_cases c3 : s.testBit j = true
        · rw [if_pos (by rw [m_shr hs (by omega)]; exact c3), decide_eq_true (Or.inr ⟨c2, c3⟩), if_pos rfl]
        · rw [if_neg (by rw [m_shr hs (by omega)]; exact c3), decide_eq_false (fun z => z.elim c (fun z => c3 z.2)), if_neg (by decide)]
      · rw [if_neg (by rw [iI_eq0 hss, sg_0]; exact c2), decide_eq_false (fun z => z.elim c (fun z => c2 z.1)), if_neg (by decide)]
theorem o_project (hD' : LD n A B C da db dc) (hR : LR n A B C) (hU : LU n A B C) (hN : 70000 ≤ N) (hM : MSp n A B C K X Y D) (hT : Tp K (fun j => thrS n A B C (X j) (Y j) (D j)) mt) (hV : Tp K (fun j => abvS n A B C (X j) (Y j) (D j)) mv) (hK : K ≤ 36) (hRN : RN n A B C rs rn rk_) (k0 : Int32) (x0 y0 d0 r0 : Nat → Int32) (t0 : Int32) (o : Nat → Int64) (x1 x2 : Int32) :
    ∃ u v, fL_project N mt mv (nI K) rs rn rk_ o x1 x2 = some u ∧ fX5_project N (nI n) da db dc k0 x0 y0 d0 r0 t0 x1 x2 = some v ∧ v.2.2.2.2.2.2 = u.1 ∧ (u.1 = 0 → u.2 0 = Int32.toInt64 v.1) := by
  have hn := hR.1
  have h46 := cnt_512 (C := C) hR.1 (LR_n0 hR)
  obtain ⟨x', y', d', r', hP, hr, rt, rf⟩ := r_roomIs hD' hR hU hN hM hK k0 x0 y0 d0 r0
  obtain ⟨h1, h2, h3⟩ := id hRN
  rw [fL_project.eq_1, fX4_project.eq_1, fX5_project.eq_1, h1]
  rcases idx x1 (K := rk (rB n A B C) 512) (by omega) with ⟨i, hi, rfl⟩ | hb
  · obtain ⟨s, hs, hp, rfl⟩ := room_ex hi
    have hrs := h3 s hs hp
    rw [c_checkRoom_t N h46 hi, bdx_r, rt _ hi, bd_s, f_t, bd_s, if_pos b01f]
    dsimp only
    rw [r_setOf hr hN hs hp, bd_s]
    rcases idx x2 (K := K) (by omega) with ⟨m, hm, rfl⟩ | hb
    · have hl := prj_lt (A := A) (B := B) (C := C) hn hs (X m) (Y m) (D m)
      have hpr := rB_t.mpr (prj_real hM hm (rB_t.mp hp))
      rw [c_checkMeet_t N hK hm, bdx_r, fX3_set.eq_1, rd_46 (by omega), hrs, bd_s, c_projected hn hT hV hK N hm, bd_s, fX3_numberOf.eq_1, rd_512 hl, h2 _ hl, if_pos hpr, bd_s, bdc_r, in_t N hm (by omega), bd_s, f_t, bd_s, if_pos b01f]
      dsimp only
      rw [r_prj hD' hR hM hP hK hN hm hs, r_numberOf (p := rB n A B C) hr hN (by omega), bd_s]
      exact ⟨_, _, rfl, rfl, rfl, fun _ => updL0 o _⟩
    · rw [c_checkMeet_f N hb, bdx_l, bdc_l, if_pos rfl, in_f N hb (by omega), bd_s, f_f, bd_s, if_neg b01t]
      exact ⟨_, _, rfl, rfl, rfl, fun z => absurd z one_ne0⟩
  · rw [c_checkRoom_f N hb, bdx_l, bdc_l, if_pos rfl, rf _ hb, bd_s, f_f, bd_s, if_neg b01t]
    exact ⟨_, _, rfl, rfl, rfl, fun z => absurd z one_ne0⟩
end OF
