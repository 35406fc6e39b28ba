/-! ===== what the house answers about ROOMS ===== -/
section AR
variable {n : Nat} {A B C : Nat → Int} {la lb lc : Nat → Int32} {N : Nat} {K : Nat} {X Y D : Nat → Int} {mx my md mt mv rs rn rw_ : Nat → Int32} {rk_ : Int32}
theorem a_rooms (N : Nat) : fX4_rooms N rk_ = some rk_ := by
  rw [fX4_rooms.eq_1, fX3_count.eq_1]
  rfl
theorem a_bounded (hD : LD n A B C la lb lc) (hR : LR n A B C) (hN : 70000 ≤ N) (hRN : RN n A B C rs rn rk_) : fX4_bounded N la lb (nI n) rs rk_ = some (nI (rk (fun s => rB n A B C s && bdd n A B s) 512)) := by
  have h46 := cnt_512 (C := C) hR.1 (LR_n0 hR)
  obtain ⟨h1, h2, h3⟩ := hRN
  have hre : rk (fun s => rB n A B C s && bdd n A B s) 512 = rk (fun i => bdd n A B (rs i).toNatClampNeg) (rk (rB n A B C) 512) := rk_re (σ := fun i => (rs i).toNatClampNeg) (fun s hs hp => by
    show (rs (rk (rB n A B C) s)).toNatClampNeg = s
    rw [h3 s hs hp, nI_clamp (show s < 2147483648 by omega)])
  rw [hre, fX4_bounded.eq_1, h1]
  exact loop_u (fun f j => fX4_bounded_b4 N la lb (nI n) rs (nI (rk (rB n A B C) 512)) f (nI (rk (fun i => bdd n A B (rs i).toNatClampNeg) j)) (nI j)) _ (rk (rB n A B C) 512)
    (fun f => by rw [fX4_bounded_b4.eq_2, fX3_count.eq_1, bd_s, if_pos (nI_le' (a := rk (rB n A B C) 512) (b := rk (rB n A B C) 512) (by omega) (Nat.le_refl _))])
    (fun f j hj => by
      obtain ⟨s, hs, hp, hrk⟩ := room_ex hj
      have hrs : rs j = nI s := by rw [← hrk]; exact h3 s hs hp
      rw [fX4_bounded_b4.eq_2, fX3_count.eq_1, bd_s, if_neg (nI_nle' (b := rk (rB n A B C) 512) (by omega) hj), c_isBounded hD hR hN (by omega) hs hrs, bd_s, nI_1, nI_1]
      rcases hb : bdd n A B s with _ | _
      · rw [if_pos b01f, rk_f (p := fun i => bdd n A B (rs i).toNatClampNeg) (by rw [hrs, nI_clamp (show s < 2147483648 by omega), hb])]
      · rw [if_neg b01t, rk_t (p := fun i => bdd n A B (rs i).toNatClampNeg) (by rw [hrs, nI_clamp (show s < 2147483648 by omega), hb])]) (rk (rB n A B C) 512) N 0 (by omega) (by omega)
/-- a ROOM and its number -/
theorem a_chk (hR : LR n A B C) (hRN : RN n A B C rs rn rk_) (N : Nat) {s : Nat} (hs : s < 512) (hp : rB n A B C s = true) : fX4_checkRoom N rk_ (nI (rk (rB n A B C) s)) = some (.inr ()) ∧ rk (rB n A B C) s < rk (rB n A B C) 512 ∧ rk (rB n A B C) 512 ≤ 46 ∧ rs (rk (rB n A B C) s) = nI s := by
  have h46 := cnt_512 (C := C) hR.1 (LR_n0 hR)
  have hlt := rk_lt hs hp
  obtain ⟨h1, h2, h3⟩ := hRN
  rw [h1]
  exact ⟨c_checkRoom_t N h46 hlt, hlt, h46, h3 s hs hp⟩
theorem a_room (hD : LD n A B C la lb lc) (hR : LR n A B C) (hN : 70000 ≤ N) (hT : Tp K (fun j => thrS n A B C (X j) (Y j) (D j)) mt) (hV : Tp K (fun j => abvS n A B C (X j) (Y j) (D j)) mv) (hK : K ≤ 36) (hRN : RN n A B C rs rn rk_) {s : Nat} (hs : s < 512) (hp : rB n A B C s = true) :
    fX4_room N la lb (nI n) mt mv (nI K) rs rn rk_ (nI (rk (rB n A B C) s)) 0 = some (.inr (nI s)) ∧ fX4_room N la lb (nI n) mt mv (nI K) rs rn rk_ (nI (rk (rB n A B C) s)) 1 = some (.inr (b01 (bdd n A B s))) ∧ fX4_room N la lb (nI n) mt mv (nI K) rs rn rk_ (nI (rk (rB n A B C) s)) 2 = some (.inr (nI (walS n A B C s))) ∧ fX4_room N la lb (nI n) mt mv (nI K) rs rn rk_ (nI (rk (rB n A B C) s)) 3 = some (.inr (nI (rk (corN n A B C X Y D s) K))) := by
  have hn := hR.1
  have hsn := real_lt (rB_t.mp hp)
  obtain ⟨c, hlt, h46, hrs⟩ := a_chk hR hRN N hs hp
  refine ⟨?_, ?_, ?_, ?_⟩
  · rw [fX4_room.eq_1, c, bdx_r]
    simp (disch := decide) only [if_pos, if_neg]
    rw [fX3_set.eq_1, rd_46 (by omega), hrs, bd_s]
  · rw [fX4_room.eq_1, c, bdx_r]
    simp (disch := decide) only [if_pos, if_neg]
    rw [c_isBounded hD hR hN (by omega) hs hrs, bd_s]
    rcases bdd n A B s with _ | _
    · rw [if_pos b01f]; rfl
    · rw [if_neg b01t]; rfl
  · rw [fX4_room.eq_1, c, bdx_r]
    simp (disch := decide) only [if_pos, if_neg]
    rw [c_walls hn hN hRN (by omega) hs hsn hrs, bd_s]
  · rw [fX4_room.eq_1, c, bdx_r]
    simp (disch := decide) only [if_pos, if_neg]
    rw [fX3_set.eq_1, rd_46 (by omega), hrs, bd_s, c_corners hn hN hT hV hK hs hsn, bd_s]
theorem a_roomOf (hRN : RN n A B C rs rn rk_) (N : Nat) {s : Nat} (hs : s < 512) : fX4_roomOf N rn (nI s) = some (.inr (if rB n A B C s then nI (rk (rB n A B C) s) else -1)) := by
  rw [fX4_roomOf.eq_1, if_neg (idx_lt0 hs (by omega)), if_pos (show nI s < (512 : Int32) from idx_ltK (K := 512) hs (by omega)), fX3_numberOf.eq_1, rd_512 hs, bd_s, hRN.2.1 s hs]
theorem a_place (N : Nat) {t : Nat} (ht : t ≤ 1000) : fX4_checkPlace N (nI t) = some (.inr ()) := by
  rw [fX4_checkPlace.eq_1, if_pos (show (0 : Int32) ≤ nI t from nI_le' (a := 0) (by omega) (by omega))]
theorem a_corner (hR : LR n A B C) (hN : 70000 ≤ N) (hT : Tp K (fun j => thrS n A B C (X j) (Y j) (D j)) mt) (hV : Tp K (fun j => abvS n A B C (X j) (Y j) (D j)) mv) (hK : K ≤ 36) (hRN : RN n A B C rs rn rk_) {s : Nat} (hs : s < 512) (hp : rB n A B C s = true) {t : Nat} (ht : t ≤ 1000) :
    (rk (corN n A B C X Y D s) K ≤ t → fX4_corner N mt mv (nI K) rs rk_ (nI (rk (rB n A B C) s)) (nI t) = some (.inr (-1))) ∧ (∀ m, m < K → corN n A B C X Y D s m = true → rk (corN n A B C X Y D s) m = t → fX4_corner N mt mv (nI K) rs rk_ (nI (rk (rB n A B C) s)) (nI t) = some (.inr (nI m))) := by
  have hn := hR.1
  have hsn := real_lt (rB_t.mp hp)
  obtain ⟨c, hlt, h46, hrs⟩ := a_chk hR hRN N hs hp
  obtain ⟨q, hq⟩ : ∃ q : Nat → Bool, q = corN n A B C X Y D s := ⟨_, rfl⟩
  rw [← hq]
  have key : ∀ v, fX2_cornerAt N mt mv (nI K) (nI s) (nI t) = some v → fX4_corner N mt mv (nI K) rs rk_ (nI (rk (rB n A B C) s)) (nI t) = some (.inr v) := by
    intro v hv
    rw [fX4_corner.eq_1, c, bdx_r, a_place N ht, bdx_r, fX3_set.eq_1, rd_46 (by omega), hrs, bd_s, hv, bd_s]
  have step : ∀ m j f, j + m = K → m < f → rk q j ≤ t → (rk q K ≤ t → fX2_cornerAt_b5 N mt mv (nI K) (nI s) (nI t) f (nI (rk q j)) (nI j) = some (-1)) ∧ (∀ i, j ≤ i → i < K → q i = true → rk q i = t → fX2_cornerAt_b5 N mt mv (nI K) (nI s) (nI t) f (nI (rk q j)) (nI j) = some (nI i)) := by
    intro m
    induction m with
    | zero =>
      intro j f hj hf hle
      obtain ⟨f', rfl⟩ : ∃ f', f = f' + 1 := ⟨f - 1, by omega⟩
      obtain rfl : j = K := by omega
      rw [fX2_cornerAt_b5.eq_2, if_pos (nI_le' (by omega) (Nat.le_refl j))]
      exact ⟨fun _ => rfl, fun i h1 h2 => by omega⟩
    | succ m ih =>
      intro j f hj hf hle
      obtain ⟨f', rfl⟩ : ∃ f', f = f' + 1 := ⟨f - 1, by omega⟩
      rw [fX2_cornerAt_b5.eq_2, if_neg (nI_nle' (by omega) (by omega)), c_isCorner hn hT hV hK N (show j < K by omega) hs hsn, bd_s, nI_1, nI_1]
      have hle2 := rk_le q j
      rcases hc : corB n A B C s (X j) (Y j) (D j) with _ | _
      · have hqj : q j = false := by rw [hq]; exact hc
        have h2 := ih (j + 1) f' (by omega) (by omega) (by rw [rk_f hqj]; exact hle)
        rw [rk_f hqj] at h2
        rw [if_pos b01f]
        refine ⟨h2.1, fun i h3 h4 h5 h6 => h2.2 i ?_ h4 h5 h6⟩
        by_cases e : i = j
        · subst e; rw [hqj] at h5; cases h5
        · omega
      · have hqj : q j = true := by rw [hq]; exact hc
        rw [if_neg b01t]
        have hlt2 : rk q j < rk q K := rk_lt (by omega) hqj
        by_cases cc : rk q j = t
        · rw [if_pos (by rw [cc])]
          refine ⟨fun z => by omega, fun i h3 h4 h5 h6 => ?_⟩
          rw [rk_inj h5 hqj (h6.trans cc.symm)]
        · rw [if_neg (by rw [nI_eq (by omega) (by omega)]; exact cc)]
          have h2 := ih (j + 1) f' (by omega) (by omega) (by rw [rk_t hqj]; omega)
          rw [rk_t hqj] at h2
          refine ⟨h2.1, fun i h3 h4 h5 h6 => h2.2 i ?_ h4 h5 h6⟩
          by_cases e : i = j
          · subst e; exact absurd h6 cc
          · omega
  have h := step K 0 N (by omega) (by omega) (Nat.zero_le t)
  rw [rk_0] at h
  have e0 : fX2_cornerAt N mt mv (nI K) (nI s) (nI t) = fX2_cornerAt_b5 N mt mv (nI K) (nI s) (nI t) N (nI 0) (nI 0) := by rw [fX2_cornerAt.eq_1]; rfl
  exact ⟨fun z => key _ (e0.trans (h.1 z)), fun m h1 h2 h3 => key _ (e0.trans (h.2 m (Nat.zero_le m) h1 h2 h3))⟩
theorem a_project (hR : LR n A B C) (hM : MSp n A B C K X Y D) (hT : Tp K (fun j => thrS n A B C (X j) (Y j) (D j)) mt) (hV : Tp K (fun j => abvS n A B C (X j) (Y j) (D j)) mv) (hK : K ≤ 36) (hRN : RN n A B C rs rn rk_) (N : Nat) {s : Nat} (hs : s < 512) (hp : rB n A B C s = true) {m : Nat} (hm : m < K) :
    prj n A B C s (X m) (Y m) (D m) < 512 ∧ rB n A B C (prj n A B C s (X m) (Y m) (D m)) = true ∧ fX4_project N mt mv (nI K) rs rn rk_ (nI (rk (rB n A B C) s)) (nI m) = some (.inr (nI (rk (rB n A B C) (prj n A B C s (X m) (Y m) (D m))))) := by
  have hn := hR.1
  obtain ⟨c, hlt, h46, hrs⟩ := a_chk hR hRN N hs hp
  have hl := prj_lt (A := A) (B := B) (C := C) hn hs (X m) (Y m) (D m)
  have hpr := rB_t.mpr (prj_real hM hm (rB_t.mp hp))
  refine ⟨hl, hpr, ?_⟩
  rw [fX4_project.eq_1, c, bdx_r, c_checkMeet_t N hK hm, bdx_r, fX3_set.eq_1, rd_46 (by omega), hrs, bd_s, c_projected hn hT hV hK N hm, bd_s, fX3_numberOf.eq_1, rd_512 hl, hRN.2.1 _ hl, if_pos hpr, bd_s]
/-- the projection has the MEET as a corner, and is the ROOM's at its LINES -/
theorem prj_own {s : Nat} (hs : s < 2 ^ n) (x y d : Int) : corB n A B C (prj n A B C s x y d) x y d = true ∧ ∀ k, k < n → ht A B C k x y d = 0 → (prj n A B C s x y d).testBit k = s.testBit k := by
  constructor
  · unfold corB
    rw [bP_iff]
    intro k hk
    rcases hb : (prj n A B C s x y d).testBit k with _ | _
    · rw [if_neg (by decide)]
      rcases (show ht A B C k x y d ≤ 0 ∨ 0 < ht A B C k x y d by omega) with z | z
      · exact z
      · have := (prj_t (A := A) (B := B) (C := C) s x y d k).mpr ⟨hk, Or.inr z⟩
        rw [hb] at this
        cases this
    · rw [if_pos rfl]
      rcases ((prj_t (A := A) (B := B) (C := C) s x y d k).mp hb).2 with z | z
      · omega
      · omega
  · intro k hk h0
    rw [Bool.eq_iff_iff, prj_t]
    constructor
    · rintro ⟨-, z | z⟩
      · exact z.1
      · omega
    · intro z
      exact ⟨hk, Or.inl ⟨z, h0⟩⟩
/-! the best corner -/
theorem a_best (hD : LD n A B C la lb lc) (hR : LR n A B C) (hN : 70000 ≤ N) (hM : MSp n A B C K X Y D) (hP : Rp K X Y D mx my md) (hT : Tp K (fun j => thrS n A B C (X j) (Y j) (D j)) mt) (hV : Tp K (fun j => abvS n A B C (X j) (Y j) (D j)) mv) (hK : K ≤ 36) (hRN : RN n A B C rs rn rk_) {s : Nat} (hs : s < 512) (hp : rB n A B C s = true) {gx gy : Int} (hx : gx.natAbs ≤ 9) (hy : gy.natAbs ≤ 9) (hab : ¬ (gx = 0 ∧ gy = 0)) :
    (fX4_best N la lb (nI n) mx my md mt mv (nI K) rs rk_ (nI (rk (rB n A B C) s)) (iI gx) (iI gy) = some (.inr (-1)) ∧ (hasB n A B s gx gy = false ∨ ∀ m, m < K → corN n A B C X Y D s m = false)) ∨
    ∃ m, m < K ∧ corN n A B C X Y D s m = true ∧ fX4_best N la lb (nI n) mx my md mt mv (nI K) rs rk_ (nI (rk (rB n A B C) s)) (iI gx) (iI gy) = some (.inr (nI m)) ∧ ∀ i, i < K → corN n A B C X Y D s i = true → goal gx gy X Y i * D m ≤ goal gx gy X Y m * D i ∧ (m ≤ i ∨ goal gx gy X Y i * D m < goal gx gy X Y m * D i) := by
  have hn := hR.1
  have hsn := real_lt (rB_t.mp hp)
  obtain ⟨c, hlt, h46, hrs⟩ := a_chk hR hRN N hs hp
  have e1 : ∀ {α : Type} (a b : α), (if iI gx = 0 then if iI gy = 0 then a else b else b) = b := by
    intro α a b
    by_cases c1 : gx = 0
    · rw [if_pos (by rw [iI_eq0 (sm_of hx)]; exact c1), if_neg (by rw [iI_eq0 (sm_of hy)]; exact fun z => hab ⟨c1, z⟩)]
    · rw [if_neg (by rw [iI_eq0 (sm_of hx)]; exact c1)]
  have e2 : fX4_best N la lb (nI n) mx my md mt mv (nI K) rs rk_ (nI (rk (rB n A B C) s)) (iI gx) (iI gy) = fX4_best_b37 N la lb (nI n) mx my md mt mv (nI K) rs (nI (rk (rB n A B C) s)) (iI gx) (iI gy) := by
    rw [fX4_best.eq_1, c, bdx_r, c_near N hx, bd_s, if_pos rfl, c_near N hy, bd_s, if_pos rfl, e1]
  rw [e2, fX4_best_b37.eq_1, c_hasBound hD hR hN (by omega) hs hrs hx hy, bd_s]
  rcases hb : hasB n A B s gx gy with _ | _
  · rw [if_pos b01f]
    exact Or.inl ⟨rfl, Or.inl rfl⟩
  · rw [if_neg b01t, fX3_set.eq_1, rd_46 (by omega), hrs, bd_s, fX2_bestCorner.eq_1]
    obtain ⟨q, hq⟩ : ∃ q : Nat → Bool, q = corN n A B C X Y D s := ⟨_, rfl⟩
    rw [← hq]
    have step : ∀ m j f (best : Int32), j + m = K → m < f → ((best = -1 ∧ ∀ i, i < j → q i = false) ∨ ∃ o, o < j ∧ q o = true ∧ best = nI o ∧ ∀ i, i < j → q i = true → goal gx gy X Y i * D o ≤ goal gx gy X Y o * D i ∧ (o ≤ i ∨ goal gx gy X Y i * D o < goal gx gy X Y o * D i)) →
        (fX2_bestCorner_b6 N mx my md mt mv (nI K) (nI s) (iI gx) (iI gy) f best (nI j) = some (-1) ∧ ∀ i, i < K → q i = false) ∨ ∃ o, o < K ∧ q o = true ∧ fX2_bestCorner_b6 N mx my md mt mv (nI K) (nI s) (iI gx) (iI gy) f best (nI j) = some (nI o) ∧ ∀ i, i < K → q i = true → goal gx gy X Y i * D o ≤ goal gx gy X Y o * D i ∧ (o ≤ i ∨ goal gx gy X Y i * D o < goal gx gy X Y o * D i) := by
      intro m
      induction m with
      | zero =>
        intro j f best hj hf hbest
        obtain ⟨f', rfl⟩ : ∃ f', f = f' + 1 := ⟨f - 1, by omega⟩
        obtain rfl : j = K := by omega
        rw [fX2_bestCorner_b6.eq_2, if_pos (nI_le' (by omega) (Nat.le_refl j))]
        rcases hbest with ⟨z1, z2⟩ | ⟨o, z1, z2, z3, z4⟩
        · exact Or.inl ⟨by rw [z1], z2⟩
        · exact Or.inr ⟨o, z1, z2, by rw [z3], z4⟩
      | succ m ih =>
        intro j f best hj hf hbest
        obtain ⟨f', rfl⟩ : ∃ f', f = f' + 1 := ⟨f - 1, by omega⟩
        have hj' : j < K := by omega
        have hdj := (hM.1 j hj').1.1
        rw [fX2_bestCorner_b6.eq_2, if_neg (nI_nle' (by omega) hj'), c_isCorner hn hT hV hK N hj' hs hsn, bd_s, nI_1]
        rcases hc : corB n A B C s (X j) (Y j) (D j) with _ | _
        · have hqj : q j = false := by rw [hq]; exact hc
          rw [if_pos b01f]
          refine ih (j + 1) f' best (by omega) (by omega) ?_
          rcases hbest with ⟨z1, z2⟩ | ⟨o, z1, z2, z3, z4⟩
          · refine Or.inl ⟨z1, fun i hi => ?_⟩
            by_cases e : i = j
            · subst e; exact hqj
            · exact z2 i (by omega)
          · refine Or.inr ⟨o, by omega, z2, z3, fun i hi hqi => ?_⟩
            by_cases e : i = j
            · subst e; rw [hqj] at hqi; cases hqi
            · exact z4 i (by omega) hqi
        · have hqj : q j = true := by rw [hq]; exact hc
          rw [if_neg b01t]
          rcases hbest with ⟨z1, z2⟩ | ⟨o, z1, z2, z3, z4⟩
          · rw [if_pos z1]
            refine ih (j + 1) f' (nI j) (by omega) (by omega) (Or.inr ⟨j, by omega, hqj, rfl, fun i hi hqi => ?_⟩)
            by_cases e : i = j
            · subst e; exact ⟨Int.le_refl _, Or.inl (Nat.le_refl _)⟩
            · rw [z2 i (by omega)] at hqi; cases hqi
          · subst z3
            have ho : o < K := by omega
            have hdo := (hM.1 o ho).1.1
            rw [if_neg (nI_ne_m1 (by omega)), c_better hR hM hP hK N hj' ho hx hy, bd_s]
            by_cases cb : goal gx gy X Y o * D j < goal gx gy X Y j * D o
            · rw [decide_eq_true cb, if_neg b01t]
              refine ih (j + 1) f' (nI j) (by omega) (by omega) (Or.inr ⟨j, by omega, hqj, rfl, fun i hi hqi => ?_⟩)
              by_cases e : i = j
              · subst e; exact ⟨Int.le_refl _, Or.inl (Nat.le_refl _)⟩
              · have hii : i < j := by omega
                have hdi := (hM.1 i (by omega)).1.1
                have w := (z4 i hii hqi).1
                -- goal i / D i ≤ goal o / D o < goal j / D j
                have w1 : goal gx gy X Y i * D o * D j ≤ goal gx gy X Y o * D i * D j := Int.mul_le_mul_of_nonneg_right w (Int.le_of_lt hdj)
                have w2 : goal gx gy X Y o * D j * D i < goal gx gy X Y j * D o * D i := Int.mul_lt_mul_of_pos_right cb hdi
                have w3 : goal gx gy X Y i * D j * D o < goal gx gy X Y j * D i * D o := by
                  have r1 := r3 (goal gx gy X Y i) (D o) (D j)
                  have r2 := r3 (goal gx gy X Y o) (D i) (D j)
                  have r4 := r3 (goal gx gy X Y j) (D o) (D i)
                  omega
                have w4 := lt_mul_c w3 hdo
                exact ⟨Int.le_of_lt w4, Or.inr w4⟩
            · rw [decide_eq_false cb, if_pos b01f]
              refine ih (j + 1) f' (nI o) (by omega) (by omega) (Or.inr ⟨o, by omega, z2, rfl, fun i hi hqi => ?_⟩)
              by_cases e : i = j
              · subst e; exact ⟨by omega, Or.inl (by omega)⟩
              · exact z4 i (by omega) hqi
    rcases step K 0 N (-1) (by omega) (by omega) (Or.inl ⟨rfl, fun i hi => absurd hi (Nat.not_lt_zero i)⟩) with ⟨z1, z2⟩ | ⟨o, z1, z2, z3, z4⟩
    · rw [show nI 0 = (0 : Int32) from rfl] at z1
      rw [z1, bd_s]
      exact Or.inl ⟨rfl, Or.inr z2⟩
    · rw [show nI 0 = (0 : Int32) from rfl] at z3
      rw [z3, bd_s]
      exact Or.inr ⟨o, z1, z2, rfl, z4⟩
/-- a BOUNDED ROOM has a bound every way -/
theorem bdd_has (hN : ∀ j, j < n → ¬ (A j = 0 ∧ B j = 0)) {s : Nat} (hb : bdd n A B s = true) {gx gy : Int} (hab : ¬ (gx = 0 ∧ gy = 0)) : hasB n A B s gx gy = true := by
  obtain ⟨hn, hu⟩ := (bdd_iff hN s).mp hb
  refine bP_t ⟨fun z => hu ⟨gx, gy, hab, z⟩, fun k hk => ⟨fun _ z => hu ⟨_, _, e_ne (hN k hk), z⟩, fun _ z => hu ⟨_, _, e_ne' (hN k hk), z⟩⟩⟩
/-! galleries -/
theorem gal_rev (p : Nat → Bool) : ∀ (m a c : Nat), c < 512 → pc c = m → (if p a then 1 else 0) * waF p m a c = (if p (a ^^^ c) then 1 else 0) * waF p m (a ^^^ c) c
  | 0, a, c, hc, hm => by
    obtain rfl := pc_0 hc hm
    rw [Nat.xor_zero]
  | m + 1, a, c, hc, hm => by
    have h1 : (if p a then 1 else 0) * waF p (m + 1) a c = (if p a then 1 else 0) * ((if p (a ^^^ c) then 1 else 0) * sumN (fun l => if c.testBit l then waF p m (a ^^^ c) (c ^^^ 2 ^ l) else 0) 9) := by
      congr 1
      rw [waF_s, ← sumN_mulc]
      apply sumN_cong
      intro l hl
      rcases hb : c.testBit l with _ | _
      · rw [if_neg Bool.false_ne_true, if_neg Bool.false_ne_true, Nat.mul_zero]
      · rw [if_pos rfl, if_pos rfl]
        have hpc := pc_bit hc hl hb
        have hx := xor_lt hc hl
        have ih := gal_rev p m (a ^^^ 2 ^ l) (c ^^^ 2 ^ l) hx (by omega)
        rw [xor_two] at ih
        exact ih
    have h2 : waF p (m + 1) (a ^^^ c) c = (if p a then 1 else 0) * sumN (fun l => if c.testBit l then waG p m (a ^^^ c) (c ^^^ 2 ^ l) else 0) 9 := by
      rw [waFG p (m + 1) (a ^^^ c) c hc hm, waG_s, xor_cc]
    have h3 : sumN (fun l => if c.testBit l then waG p m (a ^^^ c) (c ^^^ 2 ^ l) else 0) 9 = sumN (fun l => if c.testBit l then waF p m (a ^^^ c) (c ^^^ 2 ^ l) else 0) 9 := by
      apply sumN_cong
      intro l hl
      rcases hb : c.testBit l with _ | _
      · rfl
      · rw [if_pos rfl, if_pos rfl]
        have hpc := pc_bit hc hl hb
        exact (waFG p m (a ^^^ c) (c ^^^ 2 ^ l) (xor_lt hc hl) (by omega)).symm
    rw [h1, h2, h3]
    exact Nat.mul_left_comm _ _ _
theorem gal_same {p : Nat → Bool} {a b : Nat} (ha : a < 512) (hb : b < 512) (hpa : p a = true) (hpb : p b = true) : waG p (pc (a ^^^ b)) a (a ^^^ b) = waG p (pc (b ^^^ a)) b (b ^^^ a) := by
  have hx : a ^^^ b < 512 := Nat.xor_lt_two_pow (n := 9) ha hb
  have h := gal_rev p (pc (a ^^^ b)) a (a ^^^ b) hx rfl
  have e : a ^^^ (a ^^^ b) = b := by rw [← Nat.xor_assoc, Nat.xor_self, Nat.zero_xor]
  rw [e, hpa, hpb, if_pos rfl, Nat.one_mul, Nat.one_mul, waFG p _ a _ hx rfl, waFG p _ b _ hx rfl] at h
  rw [h, Nat.xor_comm b a]
theorem a_galleries (hR : LR n A B C) (hN : 70000 ≤ N) (hRN : RN n A B C rs rn rk_) (w0 : Nat → Int32) {a b : Nat} (ha : a < 512) (hb : b < 512) (hpa : rB n A B C a = true) (hpb : rB n A B C b = true) : ∃ w', fX4_galleries N rs rn w0 rk_ (nI (rk (rB n A B C) a)) (nI (rk (rB n A B C) b)) = some (.inr (nI (waG (rB n A B C) (pc (a ^^^ b)) a (a ^^^ b)), w')) := by
  obtain ⟨c1, l1, h46, r1⟩ := a_chk hR hRN N ha hpa
  obtain ⟨c2, l2, -, r2⟩ := a_chk hR hRN N hb hpb
  obtain ⟨w1, e1⟩ := c_shortest (rw_ := w0) (N := N) hN hRN.2.1 (by omega) (by omega) ha hb r1 r2
  refine ⟨w1, ?_⟩
  rw [fX4_galleries.eq_1, c1, bdx_r, c2, bdx_r, e1, bd_s]
/-- the first gallery, step by step -/
theorem gal_steps (hR : LR n A B C) (hU : LU n A B C) (hN : 70000 ≤ N) (hRN : RN n A B C rs rn rk_) {b : Nat} (hb : b < 512) (hpb : rB n A B C b = true) : ∀ (m a : Nat), a < 512 → rB n A B C a = true → pc (a ^^^ b) = m →
    ∃ S : Nat → Nat, S 0 = a ∧ S m = b ∧ (∀ i, i ≤ m → S i < 512 ∧ rB n A B C (S i) = true ∧ pc (S i ^^^ b) = m - i) ∧ ∀ i, i < m → pc (S i ^^^ S (i + 1)) = 1 ∧ fX3_stepTowards N rn (nI (S i)) (nI b) = some (nI (S (i + 1))) := by
  have hN0 := LR_n0 hR
  have hn := hR.1
  intro m
  induction m with
  | zero =>
    intro a ha hpa hm
    have hab : a = b := by
      apply Classical.byContradiction
      intro z
      exact xor_ne0 z (pc_0 (Nat.xor_lt_two_pow (n := 9) ha hb) hm)
    refine ⟨fun _ => a, rfl, hab, fun i hi => ⟨ha, hpa, by rw [hm]; omega⟩, fun i hi => absurd hi (Nat.not_lt_zero i)⟩
  | succ m ih =>
    intro a ha hpa hm
    have hx : a ^^^ b < 512 := Nat.xor_lt_two_pow (n := 9) ha hb
    have hab : a ≠ b := by
      intro z
      rw [z, Nat.xor_self] at hm
      have : pc 0 = 0 := by decide
      omega
    obtain ⟨k, hk, hkb, hkr⟩ := step_ex hN0 hU (rB_t.mp hpa) (rB_t.mp hpb) hab
    obtain ⟨l, hl, hok, hlow⟩ := min_ex (P := okS (rB n A B C) a b) n ⟨k, hk, hkb, rB_t.mpr hkr⟩
    have hl9 : l < 9 := by omega
    have hpc := pc_bit hx hl9 hok.1
    have hs2 := xor_lt ha hl9
    have e5 : (a ^^^ 2 ^ l) ^^^ b = (a ^^^ b) ^^^ 2 ^ l := xor_sw a (2 ^ l) b
    obtain ⟨S, h0, h1, h2, h3⟩ := ih (a ^^^ 2 ^ l) hs2 hok.2 (by rw [e5]; omega)
    refine ⟨fun i => if i = 0 then a else S (i - 1), rfl, ?_, fun i hi => ?_, fun i hi => ?_⟩
    · show (if m + 1 = 0 then a else S (m + 1 - 1)) = b
      rw [if_neg (by omega), Nat.add_sub_cancel]
      exact h1
    · dsimp only
      by_cases e : i = 0
      · rw [if_pos e, e]
        exact ⟨ha, hpa, by rw [hm]; omega⟩
      · rw [if_neg e]
        obtain ⟨g1, g2, g3⟩ := h2 (i - 1) (by omega)
        exact ⟨g1, g2, by rw [g3]; omega⟩
    · dsimp only
      rw [if_neg (show ¬ i + 1 = 0 by omega), Nat.add_sub_cancel]
      by_cases e : i = 0
      · rw [if_pos e, e, h0]
        refine ⟨?_, c_step (p := rB n A B C) hN hRN.2.1 ha hb hl9 hok hlow⟩
        have e6 : a ^^^ (a ^^^ 2 ^ l) = 2 ^ l := by rw [← Nat.xor_assoc, Nat.xor_self, Nat.zero_xor]
        rw [e6]
        have g : ∀ l, l < 9 → pc (2 ^ l) = 1 := by decide +kernel
        exact g l hl9
      · rw [if_neg e]
        have h4 := h3 (i - 1) (by omega)
        rw [show i - 1 + 1 = i by omega] at h4
        exact h4
theorem a_gallery (hR : LR n A B C) (hU : LU n A B C) (hN : 70000 ≤ N) (hRN : RN n A B C rs rn rk_) {a b : Nat} (ha : a < 512) (hb : b < 512) (hpa : rB n A B C a = true) (hpb : rB n A B C b = true) :
    ∃ S : Nat → Nat, S 0 = a ∧ S (pc (a ^^^ b)) = b ∧ (∀ i, i ≤ pc (a ^^^ b) → S i < 512 ∧ rB n A B C (S i) = true ∧ pc (S i ^^^ b) = pc (a ^^^ b) - i) ∧ (∀ i, i < pc (a ^^^ b) → pc (S i ^^^ S (i + 1)) = 1) ∧
      (∀ i, i ≤ pc (a ^^^ b) → fX4_gallery N rs rn rk_ (nI (rk (rB n A B C) a)) (nI (rk (rB n A B C) b)) (nI i) = some (.inr (nI (rk (rB n A B C) (S i))))) ∧
      fX4_gallery N rs rn rk_ (nI (rk (rB n A B C) a)) (nI (rk (rB n A B C) b)) (nI (pc (a ^^^ b) + 1)) = some (.inr (-1)) := by
  obtain ⟨c1, l1, h46, r1⟩ := a_chk hR hRN N ha hpa
  obtain ⟨c2, l2, -, r2⟩ := a_chk hR hRN N hb hpb
  have hx : a ^^^ b < 512 := Nat.xor_lt_two_pow (n := 9) ha hb
  have hD9 := pc_le (a ^^^ b)
  obtain ⟨S, h0, h1, h2, h3⟩ := gal_steps hR hU hN hRN hb hpb (pc (a ^^^ b)) a ha hpa rfl
  have key : ∀ t v, t ≤ 1000 → fX3_onFirstWay N rs rn (nI (rk (rB n A B C) a)) (nI (rk (rB n A B C) b)) (nI t) = some v → fX4_gallery N rs rn rk_ (nI (rk (rB n A B C) a)) (nI (rk (rB n A B C) b)) (nI t) = some (.inr v) := by
    intro t v ht hv
    rw [fX4_gallery.eq_1, c1, bdx_r, c2, bdx_r, a_place N ht, bdx_r, hv, bd_s]
  obtain ⟨d, hd⟩ : ∃ d, d = pc (a ^^^ b) := ⟨_, rfl⟩
  have hway : ∀ t, t ≤ d + 1 → fX3_onFirstWay N rs rn (nI (rk (rB n A B C) a)) (nI (rk (rB n A B C) b)) (nI t) = (if t ≤ d then some (nI (rk (rB n A B C) (S t))) else some (-1)) := by
    intro t ht
    rw [fX3_onFirstWay.eq_1, rd_46 (by omega), r1]
    obtain ⟨Kc, hKc⟩ : ∃ Kc : Int32 → Option Int32, Kc = (fun (x4 : Int32) => rd rs 46 (nI (rk (rB n A B C) a)) (fun v => rd rs 46 (nI (rk (rB n A B C) b)) (fun w => bd (fJ6_bitCount_0f7a4 N (v ^^^ w)) (fun u => if u < nI t then some ((-1)) else rd rn 512 x4 (fun z => some z))))) := ⟨_, rfl⟩
    rw [← hKc]
    have hKv : ∀ s, s < 512 → rB n A B C s = true → Kc (nI s) = if t ≤ d then some (nI (rk (rB n A B C) s)) else some (-1) := by
      intro s hs hps
      rw [hKc]
      dsimp only
      rw [rd_46 (by omega), rd_46 (by omega), r1, r2, nI_xor, m_bitCount N hx, bd_s, rd_512 hs, hRN.2.1 s hs, if_pos hps, ← hd]
      by_cases z : t ≤ d
      · rw [if_pos z, if_neg (by rw [nI_ltI (by omega) (by omega)]; omega)]
      · rw [if_neg z, if_pos (by rw [nI_ltI (by omega) (by omega)]; omega)]
    have walk : ∀ m i f, i + m = (if t ≤ d then t else d) → m < f → fX3_onFirstWay_b11 N rs rn (nI (rk (rB n A B C) b)) (nI t) Kc f (nI (S i)) (nI i) = Kc (nI (S (if t ≤ d then t else d))) := by
      intro m
      induction m with
      | zero =>
        intro i f hi hf
        obtain ⟨f', rfl⟩ : ∃ f', f = f' + 1 := ⟨f - 1, by omega⟩
        have hi' : i = (if t ≤ d then t else d) := by omega
        rw [fX3_onFirstWay_b11.eq_2, ← hi']
        by_cases z1 : (9 : Int32) ≤ nI i
        · rw [if_pos z1]
        · rw [if_neg z1]
          by_cases z2 : t ≤ d
          · rw [if_pos z2] at hi'
            rw [if_pos (nI_le' (by omega) (by omega))]
          · rw [if_neg z2] at hi'
            have hsb : S i = b := by rw [hi', hd]; exact h1
            by_cases z3 : nI t ≤ nI i
            · rw [if_pos z3]
            · rw [if_neg z3, rd_46 (by omega), r2, if_pos (by rw [hsb])]
      | succ m ih =>
        intro i f hi hf
        obtain ⟨f', rfl⟩ : ∃ f', f = f' + 1 := ⟨f - 1, by omega⟩
        have hid : i < d := by
          by_cases z2 : t ≤ d
          · rw [if_pos z2] at hi; omega
          · rw [if_neg z2] at hi; omega
        have hit : i < t := by
          by_cases z2 : t ≤ d
          · rw [if_pos z2] at hi; omega
          · omega
        obtain ⟨g1, g2, g3⟩ := h2 i (by omega)
        have hne : S i ≠ b := by
          intro z
          rw [z, Nat.xor_self] at g3
          have : pc 0 = 0 := by decide
          omega
        rw [fX3_onFirstWay_b11.eq_2, if_neg (show ¬ (9 : Int32) ≤ nI i by rw [le9 (by omega)]; omega), if_neg (by rw [nI_leI (by omega) (by omega)]; omega), rd_46 (by omega), r2, if_neg (by rw [nI_eq (by omega) (by omega)]; exact hne), rd_46 (by omega), r2, (h3 i (by omega)).2, bd_s, nI_1]
        exact ih (i + 1) f' (by omega) (by omega)
    have hw := walk (if t ≤ d then t else d) 0 N (by omega) (by split <;> omega)
    rw [h0, show nI 0 = (0 : Int32) from rfl] at hw
    rw [hw]
    have hle : (if t ≤ d then t else d) ≤ d := by split <;> omega
    obtain ⟨g1, g2, -⟩ := h2 _ (show (if t ≤ d then t else d) ≤ pc (a ^^^ b) by rw [← hd]; exact hle)
    rw [hKv _ g1 g2]
    by_cases z : t ≤ d
    · rw [if_pos z, if_pos z, if_pos z]
    · rw [if_neg z, if_neg z]
  refine ⟨S, h0, h1, h2, fun i hi => (h3 i hi).1, fun i hi => key i _ (by omega) ?_, key _ _ (by omega) ?_⟩
  · rw [hway i (by omega), if_pos (by omega)]
  · rw [hway (pc (a ^^^ b) + 1) (by omega), if_neg (by omega)]
theorem gal_pos (hR : LR n A B C) (hU : LU n A B C) {a b : Nat} (ha : a < 512) (hb : b < 512) (hpa : rB n A B C a = true) (hpb : rB n A B C b = true) : 0 < waG (rB n A B C) (pc (a ^^^ b)) a (a ^^^ b) ∧ waG (rB n A B C) (pc (a ^^^ b)) a (a ^^^ b) ≤ 387420489 := by
  have hx : a ^^^ b < 512 := Nat.xor_lt_two_pow (n := 9) ha hb
  have h := waF_pos hR.1 (LR_n0 hR) hU (pc (a ^^^ b)) a b (rB_t.mp hpa) (rB_t.mp hpb) rfl
  have hle := waF_le (rB n A B C) (pc (a ^^^ b)) a (a ^^^ b)
  have h9 : 9 ^ pc (a ^^^ b) ≤ 387420489 := Nat.le_trans (Nat.pow_le_pow_right (by omega) (pc_le _)) (by decide)
  rw [waFG (rB n A B C) _ a _ hx rfl] at h hle
  exact ⟨h, Nat.le_trans hle h9⟩
end AR
