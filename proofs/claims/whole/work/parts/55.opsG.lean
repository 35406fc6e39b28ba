/-! ===== galleries, gallery ===== -/
section OG
variable {n : Nat} {A B C : Nat → Int} {la lb lc da db dc : Nat → Int32} {N : Nat} {K : Nat} {X Y D : Nat → Int} {mx my md mt mv rs rn rw_ : Nat → Int32} {x' y' d' r' : Nat → Int32} {rk_ : Int32}
abbrev FG8 : Type := Int32 × Int32 × (Nat → Int32) × (Nat → Int32) × (Nat → Int32) × (Nat → Int32) × (Nat → Int32) × Int32
theorem sub_refl (c : Nat) : sub c c := fun _ h => h
theorem xor_ab (a b : Nat) : b ^^^ (a ^^^ b) = a := by rw [Nat.xor_comm, xor_cc]
theorem o_galleries (hD' : LD n A B C da db dc) (hR : LR n A B C) (hU : LU n A B C) (hN : 70000 ≤ N) (hM : MSp n A B C K X Y D) (hK : K ≤ 36) (hRN : RN n A B C rs rn rk_) (k0 : Int32) (x0 y0 d0 r0 w0 : Nat → Int32) (t0 : Int32) (o : Nat → Int64) (x1 x2 : Int32) :
    ∃ u v, fL_galleries N rs rn rw_ rk_ o x1 x2 = some u ∧ fX5_galleries N (nI n) da db dc k0 x0 y0 d0 r0 w0 t0 x1 x2 = some v ∧ v.2.2.2.2.2.2.2 = u.1 ∧ (u.1 = 0 → u.2.2 0 = Int32.toInt64 v.1) := by
  have hn := hR.1
  have h46 := cnt_512 (C := C) hR.1 (LR_n0 hR)
  obtain ⟨x', y', d', r', hP, hr, rt, rf⟩ := r_roomIs hD' hR hU hN hM hK k0 x0 y0 d0 r0
  obtain ⟨x'', y'', d'', r'', hP2, hr2, rt2, rf2⟩ := r_roomIs hD' hR hU hN hM hK (nI K) x' y' d' r'
  obtain ⟨h1, h2, h3⟩ := id hRN
  rw [fL_galleries.eq_1, fX4_galleries.eq_1, fX5_galleries.eq_1, h1]
  rcases idx x1 (K := rk (rB n A B C) 512) (by omega) with ⟨i, hi, rfl⟩ | hb
  · obtain ⟨a, ha, hpa, rfl⟩ := room_ex hi
    rw [c_checkRoom_t N h46 hi, bdx_r, rt _ hi, bd_s, if_neg b01t]
    dsimp only
    rcases idx x2 (K := rk (rB n A B C) 512) (by omega) with ⟨j, hj, rfl⟩ | hb
    · obtain ⟨b, hb, hpb, rfl⟩ := room_ex hj
      have hx : a ^^^ b < 512 := Nat.xor_lt_two_pow (n := 9) ha hb
      have hxn : a ^^^ b < 2 ^ n := Nat.xor_lt_two_pow (real_lt (rB_t.mp hpa)) (real_lt (rB_t.mp hpb))
      obtain ⟨w1, e1⟩ := c_shortest (rw_ := rw_) (N := N) hN h2 (by omega) (by omega) ha hb (h3 a ha hpa) (h3 b hb hpb)
      obtain ⟨w2, e2, e3⟩ := r_findWays hn hN hr2 hb hxn w0
      rw [c_checkRoom_t N h46 hj, bdx_r, rt2 _ hj, bd_s, if_neg b01t, e1, bd_s, bdc_r, fX5_galleries_b22.eq_1, f_t', bd_s, if_pos b01f]
      dsimp only
      rw [r_setOf hr2 hN ha hpa, bd_s, r_setOf hr2 hN hb hpb, bd_s, nI_xor, e2, bd_s, rd_512 hx, e3 _ hx]
      refine ⟨_, _, rfl, rfl, rfl, fun _ => ?_⟩
      dsimp only
      rw [updL0 o, waFG (rB n A B C) (pc (a ^^^ b)) a (a ^^^ b) hx rfl |>.symm]
      unfold wyR
      rw [if_pos (bP_t (sub_refl _)), xor_ab]
    · rw [c_checkRoom_f N hb, bdx_l, bdc_l, if_pos rfl, rf2 _ hb, bd_s, if_pos b01f, fX5_galleries_b22.eq_1, f_f', bd_s, if_neg b01t]
      exact ⟨_, _, rfl, rfl, rfl, fun z => absurd z one_ne0⟩
  · rw [c_checkRoom_f N hb, bdx_l, bdc_l, if_pos rfl, rf _ hb, bd_s, if_pos b01f, fX5_galleries_b22.eq_1, f_f', bd_s, if_neg b01t]
    exact ⟨_, _, rfl, rfl, rfl, fun z => absurd z one_ne0⟩
/-! the first gallery -/
def okS (p : Nat → Bool) (a b l : Nat) : Prop := (a ^^^ b).testBit l = true ∧ p (a ^^^ 2 ^ l) = true
theorem c_step {p : Nat → Bool} (hN : 70000 ≤ N) (hRN : ∀ s, s < 512 → rn s = if p s then nI (rk p s) else -1) {a b l : Nat} (ha : a < 512) (hb : b < 512) (hl : l < 9) (hok : okS p a b l) (hlow : ∀ k, k < l → ¬ okS p a b k) : fX3_stepTowards N rn (nI a) (nI b) = some (nI (a ^^^ 2 ^ l)) := by
  have hx : a ^^^ b < 512 := Nat.xor_lt_two_pow (n := 9) ha hb
  rw [fX3_stepTowards.eq_1]
  have hst : ∀ f k, k < 9 → (okS p a b k → fX3_stepTowards_b2 N rn (nI a) (nI b) (fun (x3_495 : Int32) => bd (fX4_bit N x3_495) (fun u_496 => some ((nI a ^^^ u_496)))) (f + 1) (nI k) = some (nI (a ^^^ 2 ^ k))) ∧ (¬ okS p a b k → fX3_stepTowards_b2 N rn (nI a) (nI b) (fun (x3_495 : Int32) => bd (fX4_bit N x3_495) (fun u_496 => some ((nI a ^^^ u_496)))) (f + 1) (nI k) = fX3_stepTowards_b2 N rn (nI a) (nI b) (fun (x3_495 : Int32) => bd (fX4_bit N x3_495) (fun u_496 => some ((nI a ^^^ u_496)))) f (nI (k + 1))) := by
    intro f k hk
    have hxk := xor_lt ha hk
    rw [fX3_stepTowards_b2.eq_2, if_neg (show ¬ (9 : Int32) ≤ nI k by rw [le9 (by omega)]; omega), nI_xor, m_isIn N (by omega) (by omega), bd_s, nI_1]
    unfold okS
    rcases hb' : (a ^^^ b).testBit k with _ | _
    · rw [if_pos b01f]
      exact ⟨fun z => absurd z.1 (by decide), fun _ => rfl⟩
    · rw [if_neg b01t, m_bit N (by omega), bd_s, nI_xor, rd_512 hxk, hRN _ hxk]
      rcases hp : p (a ^^^ 2 ^ k) with _ | _
      · rw [if_neg (show ¬ false = true by decide), if_pos (show (-1 : Int32) = -1 from rfl)]
        exact ⟨fun z => absurd z.2 (by decide), fun _ => rfl⟩
      · have := rk_le p (a ^^^ 2 ^ k)
        rw [if_pos (show true = true from rfl), if_neg (nI_ne_m1 (by omega)), bd_s, nI_xor]
        exact ⟨fun _ => rfl, fun z => absurd ⟨rfl, rfl⟩ z⟩
  rcases loop_find (fun f k => fX3_stepTowards_b2 N rn (nI a) (nI b) (fun (x3_495 : Int32) => bd (fX4_bit N x3_495) (fun u_496 => some ((nI a ^^^ u_496)))) f (nI k)) (okS p a b) (fun k => some (nI (a ^^^ 2 ^ k))) (some (nI a)) 9
    (fun f => by rw [fX3_stepTowards_b2.eq_2, if_pos (by decide)])
    (fun f k hk h => (hst f k hk).1 h) (fun f k hk h => (hst f k hk).2 h)
    9 N 0 (by omega) (by omega) with ⟨k, -, h1, h2, h3, h4⟩ | ⟨h1, h2⟩
  · have : k = l := by
      rcases Nat.lt_trichotomy k l with z | z | z
      · exact absurd h2 (hlow k z)
      · exact z
      · exact absurd hok (h3 l (Nat.zero_le l) z)
    subst this
    exact h4
  · exact absurd hok (h1 l (Nat.zero_le l) hl)
def nxR (p : Nat → Bool) (a b n j : Nat) (x : Int32) : Prop := (x = -1 ∧ ∀ l, j ≤ l → l < n → ¬ okS p a b l) ∨ (∃ l, j ≤ l ∧ l < n ∧ okS p a b l ∧ x = nI l ∧ ∀ l', j ≤ l' → l' < l → ¬ okS p a b l')
theorem r_next {p : Nat → Bool} (hn : n ≤ 9) (hr : RB p r') {w : Nat → Int32} {a b : Nat} (ha : a < 512) (hb : b < 512) (hw : ∀ l, l < n → okS p a b l → ¬ w ((a ^^^ b) ^^^ 2 ^ l) ≤ 0) (Kc : Int32 → Option FG8) : ∀ (j f : Nat) (x : Int32), j ≤ n → j < f → nxR p a b n j x → ∃ x', nxR p a b n 0 x' ∧ fX5_gallery_b95 N r' w (nI a) (nI b) Kc f x (iI ((j : Int) - 1)) = Kc x'
  | 0, f, x, hj, hf, hx => by
    obtain ⟨f', rfl⟩ : ∃ f', f = f' + 1 := ⟨f - 1, by omega⟩
    refine ⟨x, hx, ?_⟩
    rw [fX5_gallery_b95.eq_2, if_pos (by decide)]
  | j + 1, f, x, hj, hf, hx => by
    obtain ⟨f', rfl⟩ : ∃ f', f = f' + 1 := ⟨f - 1, by omega⟩
    have hx2 : a ^^^ b < 512 := Nat.xor_lt_two_pow (n := 9) ha hb
    have hxa := xor_lt (k := j) ha (by omega)
    have hxb := xor_lt (k := j) hx2 (by omega)
    have e1 : (((j + 1 : Nat) : Int) - 1) = (j : Int) := by omega
    have e2 : nI j + (-1) = iI ((j : Int) - 1) := by rw [← iI_nI, iI_m1, iI_add]; rfl
    have h152 : ∀ Kd : Int32 → Int32 → Option FG8, fX5_gallery_b152 N x (nI j) 0 Kd = Kd x (iI ((j : Int) - 1)) ∧ fX5_gallery_b152 N x (nI j) 1 Kd = Kd (nI j) (iI ((j : Int) - 1)) := fun Kd => by
      rw [fX5_gallery_b152.eq_1, fX5_gallery_b152.eq_1, if_pos rfl, if_neg one_ne0, e2]
      exact ⟨rfl, rfl⟩
    have hno : ¬ okS p a b j → nxR p a b n j x := by
      intro h
      rcases hx with ⟨g1, g2⟩ | ⟨l, g1, g2, g3, g4, g5⟩
      · refine Or.inl ⟨g1, fun l h1 h2 => ?_⟩
        by_cases e : l = j
        · subst e; exact h
        · exact g2 l (by omega) h2
      · refine Or.inr ⟨l, by omega, g2, g3, g4, fun l' h1 h2 => ?_⟩
        by_cases e : l' = j
        · subst e; exact h
        · exact g5 l' (by omega) h2
    rw [e1, iI_nI, fX5_gallery_b95.eq_2, if_neg (by rw [← iI_nI, iI_lt0 (sm_n (by omega))]; omega), m_shl (by omega), nI_xor, nI_xor, nI_xor, rd_512 hxa, hr _ hxa, rd_512 hxb]
    by_cases c1 : (a ^^^ b).testBit j = true
    · rw [if_pos (by rw [m_shr hx2 (by omega)]; exact c1)]
      rcases c2 : p (a ^^^ 2 ^ j) with _ | _
      · rw [if_pos b01f, (h152 _).1]
        exact r_next hn hr ha hb hw Kc j f' x (by omega) (by omega) (hno (fun z => by rw [z.2] at c2; cases c2))
      · rw [if_neg b01t, if_neg (hw j (by omega) ⟨c1, c2⟩), (h152 _).2]
        exact r_next hn hr ha hb hw Kc j f' (nI j) (by omega) (by omega) (Or.inr ⟨j, Nat.le_refl j, by omega, ⟨c1, c2⟩, rfl, fun l' h1 h2 => by omega⟩)
    · rw [if_neg (by rw [m_shr hx2 (by omega)]; exact c1), (h152 _).1]
      exact r_next hn hr ha hb hw Kc j f' x (by omega) (by omega) (hno (fun z => c1 z.1))
theorem le_int {x : Int32} {i : Nat} (h : i ≤ 1000000) : (x ≤ nI i) ↔ x.toInt ≤ i := by
  rw [Int32.le_iff_toInt_le, ← iI_nI, iI_toInt (sm_n (by omega))]
theorem lt_int {x : Int32} {i : Nat} (h : i ≤ 1000000) : (nI i < x) ↔ (i : Int) < x.toInt := by
  rw [Int32.lt_iff_toInt_lt, ← iI_nI, iI_toInt (sm_n (by omega))]
theorem o_gallery (hD' : LD n A B C da db dc) (hR : LR n A B C) (hU : LU n A B C) (hN : 70000 ≤ N) (hM : MSp n A B C K X Y D) (hK : K ≤ 36) (hRN : RN n A B C rs rn rk_) (k0 : Int32) (x0 y0 d0 r0 w0 : Nat → Int32) (t0 : Int32) (o : Nat → Int64) (x1 x2 x3 : Int32) :
    ∃ u v, fL_gallery N rs rn rk_ o x1 x2 x3 = some u ∧ fX5_gallery N (nI n) da db dc k0 x0 y0 d0 r0 w0 t0 x1 x2 x3 = some v ∧ v.2.2.2.2.2.2.2 = u.1 ∧ (u.1 = 0 → u.2 0 = Int32.toInt64 v.1) := by
  have hn := hR.1
  have hN0 := LR_n0 hR
  have h46 := cnt_512 (C := C) hR.1 (LR_n0 hR)
  obtain ⟨x', y', d', r', hP, hr, rt, rf⟩ := r_roomIs hD' hR hU hN hM hK k0 x0 y0 d0 r0
  obtain ⟨x'', y'', d'', r'', hP2, hr2, rt2, rf2⟩ := r_roomIs hD' hR hU hN hM hK (nI K) x' y' d' r'
  obtain ⟨h1, h2, h3⟩ := id hRN
  rw [fL_gallery.eq_1, fX4_gallery.eq_1, fX5_gallery.eq_1, h1]
  rcases idx x1 (K := rk (rB n A B C) 512) (by omega) with ⟨i, hi, rfl⟩ | hb
  · obtain ⟨a, ha, hpa, rfl⟩ := room_ex hi
    rw [c_checkRoom_t N h46 hi, bdx_r, rt _ hi, bd_s, if_neg b01t]
    dsimp only
    rcases idx x2 (K := rk (rB n A B C) 512) (by omega) with ⟨j, hj, rfl⟩ | hb
    · obtain ⟨b, hb, hpb, rfl⟩ := room_ex hj
      have hx : a ^^^ b < 512 := Nat.xor_lt_two_pow (n := 9) ha hb
      have hxn : a ^^^ b < 2 ^ n := Nat.xor_lt_two_pow (real_lt (rB_t.mp hpa)) (real_lt (rB_t.mp hpb))
      obtain ⟨w2, e2, e3⟩ := r_findWays hn hN hr2 hb hxn w0
      rw [c_checkRoom_t N h46 hj, bdx_r, rt2 _ hj, bd_s, if_neg b01t, fX4_checkPlace.eq_1, fX5_gallery_b22.eq_1, f_t', bd_s, if_pos b01f]
      dsimp only
      rw [r_setOf hr2 hN ha hpa, bd_s, r_setOf hr2 hN hb hpb, bd_s]
      by_cases c : x3 < 0
      · have c2 : ¬ (0 : Int32) ≤ x3 := by rw [Int32.le_iff_toInt_le]; rw [Int32.lt_iff_toInt_lt] at c; omega
        rw [if_neg c2, bdx_l, bdc_l, if_pos rfl, if_pos c, fX5_gallery_b55.eq_1, f_f', bd_s, if_neg b01t]
        exact ⟨_, _, rfl, rfl, rfl, fun z => absurd z one_ne0⟩
      · have c2 : (0 : Int32) ≤ x3 := by rw [Int32.le_iff_toInt_le]; rw [Int32.lt_iff_toInt_lt] at c; omega
        rw [if_pos c2, bdx_r, if_neg c, fX5_gallery_b55.eq_1, f_t', bd_s, if_pos b01f, nI_xor, e2, bd_s, fX3_onFirstWay.eq_1, rd_46 (by omega), h3 a ha hpa]
        dsimp only
        obtain ⟨Kc, hKc⟩ : ∃ Kc : Int32 → Option Int32, Kc = (fun (x4_506 : Int32) => rd rs 46 (nI (rk (rB n A B C) a)) (fun v_507 => rd rs 46 (nI (rk (rB n A B C) b)) (fun v_508 => bd (fJ6_bitCount_0f7a4 N (v_507 ^^^ v_508)) (fun u_509 => if u_509 < x3 then some ((-1)) else rd rn 512 x4_506 (fun v_512 => some v_512))))) := ⟨_, rfl⟩
        rw [← hKc]
        have hKv : ∀ s, s < 512 → Kc (nI s) = if nI (pc (a ^^^ b)) < x3 then some (-1) else some (rn s) := by
          intro s hs
          rw [hKc]
          dsimp only
          rw [rd_46 (by omega), rd_46 (by omega), h3 a ha hpa, h3 b hb hpb, nI_xor, m_bitCount N hx, bd_s, rd_512 hs]
        have hD9 := pc_le (a ^^^ b)
        have walk : ∀ m i s f g, i + m = pc (a ^^^ b) → pc (s ^^^ b) = m → s < 512 → rB n A B C s = true → sub (s ^^^ b) (a ^^^ b) → m < f → m < g → ∃ val, fX3_onFirstWay_b11 N rs rn (nI (rk (rB n A B C) b)) x3 Kc f (nI s) (nI i) = some val ∧ fX5_gallery_b78 N (nI n) (nI K) x'' y'' d'' r'' w2 0 x3 (nI b) (fun (x4_971 : Int32) => bd (fX5_numberOf N r'' x4_971) (fun u_972 => some (u_972, nI K, x'', y'', d'', r'', w2, 0))) g (nI s) (nI i) = some (val, nI K, x'', y'', d'', r'', w2, 0) := by
          intro m
          induction m with
          | zero =>
            intro i s f g him hm hs hps hsub hf hg
            obtain ⟨f', rfl⟩ : ∃ f', f = f' + 1 := ⟨f - 1, by omega⟩
            obtain ⟨g', rfl⟩ : ∃ f', g = f' + 1 := ⟨g - 1, by omega⟩
            have hsb : s = b := by
              apply Classical.byContradiction
              intro z
              exact xor_ne0 z (pc_0 (Nat.xor_lt_two_pow (n := 9) hs hb) hm)
            have hcls : fX3_onFirstWay_b11 N rs rn (nI (rk (rB n A B C) b)) x3 Kc (f' + 1) (nI s) (nI i) = Kc (nI s) := by
              rw [fX3_onFirstWay_b11.eq_2]
              by_cases z1 : (9 : Int32) ≤ nI i
              · rw [if_pos z1]
              · rw [if_neg z1]
                by_cases z2 : x3 ≤ nI i
                · rw [if_pos z2]
                · rw [if_neg z2, rd_46 (by omega), h3 b hb hpb, if_pos (by rw [hsb])]
            rw [hcls, hKv s hs, fX5_gallery_b78.eq_2]
            by_cases z : x3 ≤ nI i
            · rw [if_pos z, if_neg (by rw [lt_int (by omega)]; rw [le_int (by omega)] at z; omega), h2 s hs, if_pos hps, r_numberOf (p := rB n A B C) hr2 hN (by omega), bd_s]
              exact ⟨_, rfl, rfl⟩
            · rw [if_neg z, if_pos (by rw [lt_int (by omega)]; rw [le_int (by omega)] at z; omega)]
              have hno : ∀ l, ¬ okS (rB n A B C) s b l := by
                intro l hl
                have := hl.1
                rw [hsb, Nat.xor_self, Nat.zero_testBit] at this
                cases this
              obtain ⟨xr, hx1, hx2⟩ := r_next (N := N) (p := rB n A B C) (r' := r'') (w := w2) hn hr2 hs hb (fun l _ hok => absurd hok (hno l)) (fun (x7_963 : Int32) => if x7_963 = (-1) then some ((-1), nI K, x'', y'', d'', r'', w2, 0) else nm (nI s ^^^ (1 <<< (x7_963 &&& 31))) (fun x4_965 => fX5_gallery_b78 N (nI n) (nI K) x'' y'' d'' r'' w2 0 x3 (nI b) (fun (x4_971 : Int32) => bd (fX5_numberOf N r'' x4_971) (fun u_972 => some (u_972, nI K, x'', y'', d'', r'', w2, 0))) g' x4_965 (nI i + 1))) n N (-1) (Nat.le_refl n) (by omega) (Or.inl ⟨rfl, fun l h1 h2 => by omega⟩)
              rw [nI_m1i n (by omega), hx2]
              rcases hx1 with ⟨g1, -⟩ | ⟨l, -, -, g3, -⟩
              · rw [if_pos g1]; exact ⟨_, rfl, rfl⟩
              · exact absurd g3 (hno l)
          | succ m ih =>
            intro i s f g him hm hs hps hsub hf hg
            obtain ⟨f', rfl⟩ : ∃ f', f = f' + 1 := ⟨f - 1, by omega⟩
            obtain ⟨g', rfl⟩ : ∃ f', g = f' + 1 := ⟨g - 1, by omega⟩
            have hxs : s ^^^ b < 512 := Nat.xor_lt_two_pow (n := 9) hs hb
            have hsb : s ≠ b := by
              intro z
              rw [z, Nat.xor_self] at hm
              have : pc 0 = 0 := by decide
              omega
            rw [fX3_onFirstWay_b11.eq_2, if_neg (show ¬ (9 : Int32) ≤ nI i by rw [le9 (by omega)]; omega), fX5_gallery_b78.eq_2]
            by_cases z : x3 ≤ nI i
            · rw [if_pos z, if_pos z, hKv s hs, if_neg (by rw [lt_int (by omega)]; rw [le_int (by omega)] at z; omega), h2 s hs, if_pos hps, r_numberOf (p := rB n A B C) hr2 hN (by omega), bd_s]
              exact ⟨_, rfl, rfl⟩
            · -- a step
              obtain ⟨k, hk, hkb, hkr⟩ := step_ex hN0 hU (rB_t.mp hps) (rB_t.mp hpb) hsb
              obtain ⟨l, hl, hok, hlow⟩ := min_ex (P := okS (rB n A B C) s b) n ⟨k, hk, hkb, rB_t.mpr hkr⟩
              have hl9 : l < 9 := by omega
              have hpc := pc_bit hxs hl9 hok.1
              have hs2 := xor_lt hs hl9
              have e5 : (s ^^^ 2 ^ l) ^^^ b = (s ^^^ b) ^^^ 2 ^ l := xor_sw s (2 ^ l) b
              rw [if_neg z, if_neg z, rd_46 (by omega), h3 b hb hpb, if_neg (by rw [nI_eq (by omega) (by omega)]; exact hsb), rd_46 (by omega), h3 b hb hpb, c_step (p := rB n A B C) hN h2 hs hb hl9 hok hlow, bd_s, nI_1]
              have hways : ∀ l', l' < n → okS (rB n A B C) s b l' → ¬ w2 ((s ^^^ b) ^^^ 2 ^ l') ≤ 0 := by
                intro l' hl' hok'
                have hx' := xor_lt (k := l') hxs (by omega)
                have hsub' := sub_bit hsub hok'.1
                have e6 : b ^^^ ((s ^^^ b) ^^^ 2 ^ l') = s ^^^ 2 ^ l' := by rw [xor_sw s b (2 ^ l'), xor_ab]
                have e7 : (s ^^^ b) ^^^ 2 ^ l' = (s ^^^ 2 ^ l') ^^^ b := xor_sw s b (2 ^ l')
                have hv : wyR (rB n A B C) b (a ^^^ b) ((s ^^^ b) ^^^ 2 ^ l') = waF (rB n A B C) (pc ((s ^^^ b) ^^^ 2 ^ l')) (s ^^^ 2 ^ l') ((s ^^^ b) ^^^ 2 ^ l') := by
                  unfold wyR
                  rw [if_pos (bP_t hsub'), e6]
                have hpos := waF_pos hn hN0 hU (pc ((s ^^^ 2 ^ l') ^^^ b)) (s ^^^ 2 ^ l') b (rB_t.mp hok'.2) (rB_t.mp hpb) rfl
                have hle := waF_le (rB n A B C) (pc ((s ^^^ 2 ^ l') ^^^ b)) (s ^^^ 2 ^ l') ((s ^^^ 2 ^ l') ^^^ b)
                have h9 : 9 ^ pc ((s ^^^ 2 ^ l') ^^^ b) ≤ 387420489 := Nat.le_trans (Nat.pow_le_pow_right (by omega) (pc_le _)) (by decide)
                rw [e3 _ hx', hv, e7, ← iI_nI, iI_le0 (sm_n (by omega))]
                omega
              obtain ⟨xr, hx1, hx2⟩ := r_next (N := N) (p := rB n A B C) (r' := r'') (w := w2) hn hr2 hs hb hways (fun (x7_963 : Int32) => if x7_963 = (-1) then some ((-1), nI K, x'', y'', d'', r'', w2, 0) else nm (nI s ^^^ (1 <<< (x7_963 &&& 31))) (fun x4_965 => fX5_gallery_b78 N (nI n) (nI K) x'' y'' d'' r'' w2 0 x3 (nI b) (fun (x4_971 : Int32) => bd (fX5_numberOf N r'' x4_971) (fun u_972 => some (u_972, nI K, x'', y'', d'', r'', w2, 0))) g' x4_965 (nI (i + 1)))) n N (-1) (Nat.le_refl n) (by omega) (Or.inl ⟨rfl, fun l h1 h2 => by omega⟩)
              rw [nI_m1i n (by omega), hx2]
              have hxr : xr = nI l := by
                rcases hx1 with ⟨g1, g2⟩ | ⟨l', g1, g2, g3, g4, g5⟩
                · exact absurd hok (g2 l (Nat.zero_le l) hl)
                · have : l' = l := by
                    rcases Nat.lt_trichotomy l' l with w | w | w
                    · exact absurd g3 (hlow l' w)
                    · exact w
                    · exact absurd hok (g5 l (Nat.zero_le l) w)
                  rw [g4, this]
              rw [hxr, if_neg (nI_ne_m1 (by omega)), m_shl (by omega), nI_xor, nm_s]
              exact ih (i + 1) (s ^^^ 2 ^ l) f' g' (by omega) (by rw [e5]; omega) hs2 hok.2 (by rw [e5]; exact sub_bit hsub hok.1) (by omega) (by omega)
        obtain ⟨val, v1, v2⟩ := walk (pc (a ^^^ b)) 0 a N N (by omega) rfl ha hpa (sub_refl _) (by omega) (by omega)
        rw [show nI 0 = (0 : Int32) from rfl] at v1 v2
        rw [v1, v2, bd_s, bdc_r]
        exact ⟨_, _, rfl, rfl, rfl, fun _ => updL0 o _⟩
    · rw [c_checkRoom_f N hb, bdx_l, bdc_l, if_pos rfl, rf2 _ hb, bd_s, if_pos b01f, fX5_gallery_b22.eq_1, f_f', bd_s, if_neg b01t]
      exact ⟨_, _, rfl, rfl, rfl, fun z => absurd z one_ne0⟩
  · rw [c_checkRoom_f N hb, bdx_l, bdc_l, if_pos rfl, rf _ hb, bd_s, if_pos b01f, fX5_gallery_b22.eq_1, f_f', bd_s, if_neg b01t]
    exact ⟨_, _, rfl, rfl, rfl, fun z => absurd z one_ne0⟩
end OG
