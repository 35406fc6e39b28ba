/-! ===== the law's twenty-four acts ===== -/
section PLW
variable {n : Nat} {A B C : Nat → Int} {la lb lc : Nat → Int32} {N L : Nat} {xs : Nat → Int32} {K : Nat} {X Y D : Nat → Int} {mx my md mt mv rs rn rw_ : Nat → Int32} {ln mn rk_ : Int32}
theorem t554 (h : HS n A B C K X Y D la lb lc ln mx my md mt mv mn rs rn rk_) (hN : 70000 ≤ N) {s : Nat} (hs : s < 512) (hp : rB n A B C s = true) {m : Nat} (hm : m < K) {gx gy : Int} (hx : gx.natAbs ≤ 9) (hy : gy.natAbs ≤ 9) (hab : ¬ (gx = 0 ∧ gy = 0)) (x5 : Int32) (k : Int32 → Option Unit) :
    fL_law_b554 N L xs la lb ln mx my md mt mv mn rs rn rk_ (iI gy) x5 (nI (rk (rB n A B C) s)) (nI m) (iI gx) k = k (x5 + 1) := by
  rw [fL_law_b554.eq_1, a_meets_chk h hN hs hp hm hx hy hab, bd_s, if_neg one_ne0]
theorem t483 (h : HS n A B C K X Y D la lb lc ln mx my md mt mv mn rs rn rk_) (hN : 70000 ≤ N) {s : Nat} (hs : s < 512) (hp : rB n A B C s = true) (x6 x7 x5 : Int32) (k : Int32 → Option Unit) :
    fL_law_b483 N L xs la lb ln mx my md mt mv mn rs rn rk_ x6 x7 mn (nI (rk (rB n A B C) s)) x5 k = k (x5 + 1) := by
  have h0 := h
  obtain ⟨hln, hD, hR, hU, ⟨hmn, hK, hM, hP, hT, hV⟩, hRN⟩ := h
  obtain ⟨u1, h1, e1⟩ := c_low N (x6 >>> (4 &&& 31)) (k := 19) (by omega) (by omega)
  obtain ⟨u2, h2, e2⟩ := c_low N (x7 >>> (8 &&& 31)) (k := 19) (by omega) (by omega)
  have e1' : fL_low N (x6 >>> (4 &&& 31)) 19 = some (nI u1) := e1
  have e2' : fL_low N (x7 >>> (8 &&& 31)) 19 = some (nI u2) := e2
  have g1 : nI u1 - 9 = iI ((u1 : Int) - 9) := by rw [← iI_nI, show (9 : Int32) = iI 9 from rfl, iI_sub]
  have g2 : nI u2 - 9 = iI ((u2 : Int) - 9) := by rw [← iI_nI, show (9 : Int32) = iI 9 from rfl, iI_sub]
  have b1 : ((u1 : Int) - 9).natAbs ≤ 9 := by omega
  have b2 : ((u2 : Int) - 9).natAbs ≤ 9 := by omega
  rw [fL_law_b483.eq_1, e1', bd_s, e2', bd_s, g1, g2]
  by_cases c : K = 0
  · rw [if_pos (by rw [hmn, c]; decide)]
  · rw [if_neg (by rw [hmn, ← iI_nI, iI_le0 (sm_n (by omega))]; omega), nz_s _ (by decide)]
    by_cases ct : x5 - x5 / 4 * 4 = 2
    · rw [if_pos ct]
      obtain ⟨m, hm, e3⟩ := c_low N (x6 >>> (8 &&& 31)) (k := K) (by omega) (by omega)
      rw [hmn, e3, bd_s, ← hmn]
      by_cases c1 : (u1 : Int) - 9 = 0
      · rw [if_pos (by rw [iI_eq0 (sm_of b1)]; exact c1)]
        by_cases c2 : (u2 : Int) - 9 = 0
        · rw [if_pos (by rw [iI_eq0 (sm_of b2)]; exact c2)]
          exact t554 h0 hN hs hp hm (gx := 1) (gy := (u2 : Int) - 9) (by decide) b2 (fun z => absurd z.1 (by decide)) x5 _
        · rw [if_neg (by rw [iI_eq0 (sm_of b2)]; exact c2)]
          exact t554 h0 hN hs hp hm b1 b2 (fun z => c2 z.2) x5 _
      · rw [if_neg (by rw [iI_eq0 (sm_of b1)]; exact c1)]
        exact t554 h0 hN hs hp hm b1 b2 (fun z => c1 z.1) x5 _
    · rw [if_neg ct]
theorem low_room (h : HS n A B C K X Y D la lb lc ln mx my md mt mv mn rs rn rk_) (N : Nat) (x : Int32) : ∃ s, s < 512 ∧ rB n A B C s = true ∧ fL_low N x rk_ = some (nI (rk (rB n A B C) s)) := by
  obtain ⟨hln, hD, hR, hU, hSt, hRN⟩ := h
  have hc := cnt_rooms_512 hR.1 (LR_n0 hR) hU
  have h46 := cnt_512 (A := A) (B := B) (C := C) hR.1 (LR_n0 hR)
  obtain ⟨r, hr, e⟩ := c_low N x (k := rk (rB n A B C) 512) (by omega) (by omega)
  obtain ⟨s, g1, g2, g3⟩ := room_ex hr
  exact ⟨s, g1, g2, by rw [hRN.1, e, g3]⟩
theorem t456 (h : HS n A B C K X Y D la lb lc ln mx my md mt mv mn rs rn rk_) (hN : 70000 ≤ N) {s : Nat} (hs : s < 512) (hp : rB n A B C s = true) (x6 x7 x5 : Int32) (rw_ : Nat → Int32) (k : Int32 → (Nat → Int32) → Option Unit) :
    ∃ rw', fL_law_b456 N L xs la lb ln mx my md mt mv mn rs rn rk_ x6 x7 rk_ mn (nI (rk (rB n A B C) s)) x5 rw_ k = k (x5 + 1) rw' := by
  rw [fL_law_b456.eq_1, nz_s _ (by decide)]
  by_cases ct : x5 - x5 / 6 * 6 = 5
  · rw [if_pos ct]
    obtain ⟨s2, q1, q2, q3⟩ := low_room h N x6
    obtain ⟨rw', e⟩ := a_gal_chk h hN rw_ hs q1 hp q2
    refine ⟨rw', ?_⟩
    rw [q3, bd_s, e, bd_s]
    dsimp only
    rw [if_neg one_ne0]
    exact t483 h hN hs hp x6 x7 x5 _
  · rw [if_neg ct]
    exact ⟨rw_, t483 h hN hs hp x6 x7 x5 _⟩
theorem t416 (h : HS n A B C K X Y D la lb lc ln mx my md mt mv mn rs rn rk_) (hN : 70000 ≤ N) (x6 x7 x5 : Int32) (rw_ : Nat → Int32) (k : Int32 → (Nat → Int32) → Option Unit) :
    ∃ rw', fL_law_b416 N L xs la lb ln mx my md mt mv mn rs rn rk_ x6 x7 x5 rw_ k = k (x5 + 1) rw' := by
  obtain ⟨s, hs, hp, e⟩ := low_room h N x7
  have hm : fX4_meets N mn = some mn := by
    obtain ⟨-, -, -, -, hS, -⟩ := h
    rw [hS.1]
    exact a_meets N
  rw [fL_law_b416.eq_1, a_rooms, bd_s, hm, bd_s, e, bd_s, nz_s _ (by decide)]
  by_cases ct : x5 - x5 / 2 * 2 = 1
  · rw [if_pos ct, a_rooms_chk h hN hs hp, bd_s, if_neg one_ne0]
    exact t456 h hN hs hp x6 x7 x5 rw_ _
  · rw [if_neg ct]
    exact t456 h hN hs hp x6 x7 x5 rw_ _
theorem t374 (h : HS n A B C K X Y D la lb lc ln mx my md mt mv mn rs rn rk_) (hN : 70000 ≤ N) {g : Nat} (hs : Sy g) (x4 x6 x7 x5 : Int32) (rw_ : Nat → Int32) (k : Int32 → (Nat → Int32) → Option Unit) :
    ∃ rw', fL_law_b374 N L xs (lN g) la lb lc ln mx my md mt mv mn rs rn rk_ (nI n) x4 x6 x7 x5 rw_ k = k (x5 + 1) rw' := by
  rw [fL_law_b374.eq_1, a_counts h hN, bd_s, if_neg one_ne0, nz_s _ (by decide)]
  by_cases ct : x5 - x5 / 8 * 8 = 7
  · rw [if_pos ct, a_mirr_chk h hN, bd_s, if_neg one_ne0]
    by_cases c9 : 9 < x4
    · rw [if_pos c9]
      exact t416 h hN x6 x7 x5 rw_ _
    · rw [if_neg c9, a_graph_chk hN hs, bd_s, if_neg one_ne0]
      exact t416 h hN x6 x7 x5 rw_ _
  · rw [if_neg ct]
    exact t416 h hN x6 x7 x5 rw_ _
/-! the row of EDGES that the law keeps -/
def EV (g : Nat) (ev : Nat → Int32) : Prop := ∀ a b, a < b → b < 6 → ev (6 * a + b) = b01 (ad g a b)
theorem tog_in {g a b x y : Nat} (ha : a < 6) (hb : b < 6) (hx : x < 6) (hy : y < 6) (c : (x = a ∧ y = b) ∨ (x = b ∧ y = a)) : ad (g ^^^ tieN a b) x y = !ad g x y := by
  have h := tog_t (g := g) ha hb hx hy
  cases hh : ad g x y with
  | false =>
    rw [hh] at h
    exact h.mpr (fun z => absurd (z.mpr c) (by decide))
  | true =>
    rw [hh] at h
    cases h2 : ad (g ^^^ tieN a b) x y with
    | false => rfl
    | true => exact absurd ⟨fun _ => c, fun _ => rfl⟩ (h.mp h2)
theorem tog_out {g a b x y : Nat} (ha : a < 6) (hb : b < 6) (hx : x < 6) (hy : y < 6) (c : ¬ ((x = a ∧ y = b) ∨ (x = b ∧ y = a))) : ad (g ^^^ tieN a b) x y = ad g x y := by
  rw [Bool.eq_iff_iff, tog_t ha hb hx hy]
  constructor
  · intro z
    apply Classical.byContradiction
    intro w
    exact z ⟨fun q => absurd q w, fun q => absurd q c⟩
  · intro z w
    exact c (w.mp z)
theorem one_b (b : Bool) : 1 - b01 b = b01 (!b) := by cases b <;> decide
theorem t329 (N : Nat) {g : Nat} (hs : Sy g) {ev : Nat → Int32} (hE : EV g ev) {i j lo hi : Nat} (hi6 : i < 6) (hj6 : j < 6) (hij : i ≠ j) (hlh : lo < hi) (hh6 : hi < 6) (hor : (lo = i ∧ hi = j) ∨ (lo = j ∧ hi = i)) (k : Int32 → Int64 → (Nat → Int32) → Option Unit) :
    ∃ ev', EV (g ^^^ tieN i j) ev' ∧ fL_law_b329 N L xs (nI i) (nI j) (nI (cE g)) (lN g) ev (nI (6 * lo + hi)) k = k (nI (cE (g ^^^ tieN i j))) (lN (g ^^^ tieN i j)) ev' := by
  have hx : 6 * lo + hi < 36 := by omega
  obtain ⟨c1, c2⟩ := cE_tog hs hi6 hj6 hij
  have hsw : ad g lo hi = ad g i j := by
    rcases hor with ⟨rfl, rfl⟩ | ⟨rfl, rfl⟩
    · rfl
    · rw [Bool.eq_iff_iff]
      exact ⟨fun z => (hs.2 _ _ hj6 hi6 z).1, fun z => (hs.2 _ _ hi6 hj6 z).1⟩
  have hE2 : EV (g ^^^ tieN i j) (upd ev (6 * lo + hi) (b01 (!ad g lo hi))) := by
    intro a b hab hb
    by_cases c : 6 * a + b = 6 * lo + hi
    · obtain ⟨rfl, rfl⟩ : a = lo ∧ b = hi := by omega
      rw [up_s, tog_in hi6 hj6 (by omega) (by omega) hor]
    · rw [up_n c, tog_out hi6 hj6 (by omega) (by omega) (by omega)]
      exact hE a b hab hb
  refine ⟨_, hE2, ?_⟩
  have he := a_edge N hs hi6 hj6 hij
  rw [fL_law_b329.eq_1, rd_36 hx, ck_36 hx, rd_36 hx, nI_clamp (by omega), hE lo hi hlh hh6, one_b, up_s]
  cases hb : ad g i j with
  | false =>
    rw [hsw, hb, if_pos (show b01 (!false) = 1 from rfl), fL_law_b356.eq_1, he, bdn_s]
    dsimp only
    rw [nI_1, c1 hb, if_pos rfl]
  | true =>
    have e1 : nI (cE g) + -1 = nI (cE (g ^^^ tieN i j)) := by rw [c2 hb, nI_pm]
    rw [hsw, hb, if_neg (show ¬ b01 (!true) = 1 by decide), fL_law_b356.eq_1, he, bdn_s]
    dsimp only
    rw [e1, if_pos rfl]
theorem t276 (N : Nat) {g : Nat} (hs : Sy g) {ev : Nat → Int32} (hE : EV g ev) (x7 : Int32) (k : Int32 → Int64 → (Nat → Int32) → Option Unit) :
    ∃ g' ev', Sy g' ∧ EV g' ev' ∧ fL_law_b276 N L xs x7 (nI (cE g)) (lN g) ev k = k (nI (cE g')) (lN g') ev' := by
  obtain ⟨i, hi, e1⟩ := c_low N x7 (k := 6) (by omega) (by omega)
  obtain ⟨q, hq, e2⟩ := c_low N (x7 >>> (4 &&& 31)) (k := 5) (by omega) (by omega)
  have e1' : fL_low N x7 6 = some (nI i) := e1
  have e2' : fL_low N (x7 >>> (4 &&& 31)) 5 = some (nI q) := e2
  obtain ⟨j, hj⟩ : ∃ j, j = (i + 1 + q) % 6 := ⟨_, rfl⟩
  have hj6 : j < 6 := by omega
  have hij : i ≠ j := by omega
  have e3 : ((nI i + 1) + nI q) - ((nI i + 1) + nI q) / 6 * 6 = nI j := by
    rw [nI_1, nI_add, show (6 : Int32) = nI 6 from rfl, nI_rem (by omega) (by omega), hj]
  have m1 : 6 * nI j + nI i = nI (6 * j + i) := six_add j hj6 i hi
  have m2 : 6 * nI i + nI j = nI (6 * i + j) := six_add i hi j hj6
  have hk : (fun (x4 : Int32) (ge : Int64) (e : Nat → Int32) => k x4 ge e) = k := rfl
  rw [fL_law_b276.eq_1, e1', bd_s, e2', bd_s, nz_s _ (by decide), e3, nm_s]
  by_cases c : j ≤ i
  · obtain ⟨ev', h1, h2⟩ := t329 (L := L) (xs := xs) N hs hE hi hj6 hij (lo := j) (hi := i) (by omega) hi (Or.inr ⟨rfl, rfl⟩) k
    refine ⟨_, ev', tie_Sy hs hi hj6 hij, h1, ?_⟩
    rw [if_pos (nI_le' (by omega) c), m1]
    exact h2
  · obtain ⟨ev', h1, h2⟩ := t329 (L := L) (xs := xs) N hs hE hi hj6 hij (lo := i) (hi := j) (by omega) hj6 (Or.inl ⟨rfl, rfl⟩) k
    refine ⟨_, ev', tie_Sy hs hi hj6 hij, h1, ?_⟩
    rw [if_neg (nI_nle' (by omega) (by omega)), m2]
    exact h2
/-! a line drawn -/
abbrev KL : Type := Int32 → (Nat → Int32) → (Nat → Int32) → (Nat → Int32) → Int32 → (Nat → Int32) → (Nat → Int32) → (Nat → Int32) → (Nat → Int32) → (Nat → Int32) → Int32 → (Nat → Int32) → (Nat → Int32) → Int32 → Option Unit
theorem t96 (h : HS n A B C K X Y D la lb lc ln mx my md mt mv mn rs rn rk_) (hN : 70000 ≤ N) (x6 s0 : Int32) {q : Nat} (hq : q ≤ 9) (h0 : s0 = nI q) (h1 : 2 * s0 + 1 = nI (2 * q + 1)) (k : KL) :
    ∃ n' A' B' C', ∃ u : TL, HT n' A' B' C' u ∧ fL_law_b96 N L xs x6 (nI n) la lb lc ln mx my md mt mv mn rs rn rk_ s0 k = k (nI n') u.2.1 u.2.2.1 u.2.2.2.1 u.2.2.2.2.1 u.2.2.2.2.2.1 u.2.2.2.2.2.2.1 u.2.2.2.2.2.2.2.1 u.2.2.2.2.2.2.2.2.1 u.2.2.2.2.2.2.2.2.2.1 u.2.2.2.2.2.2.2.2.2.2.1 u.2.2.2.2.2.2.2.2.2.2.2.1 u.2.2.2.2.2.2.2.2.2.2.2.2.1 u.2.2.2.2.2.2.2.2.2.2.2.2.2 := by
  have hn : n ≤ 9 := h.2.2.1.1
  obtain ⟨r1, l1, e1⟩ := c_low N x6 (k := 2 * q + 1) (by omega) (by omega)
  obtain ⟨r2, l2, e2⟩ := c_low N (x6 >>> (5 &&& 31)) (k := 2 * q + 1) (by omega) (by omega)
  obtain ⟨r3, l3, e3⟩ := c_low N (x6 >>> (10 &&& 31)) (k := 2 * q + 1) (by omega) (by omega)
  have f : ∀ r, nI r - s0 = iI ((r : Int) - q) := fun r => by rw [h0, ← iI_nI r, ← iI_nI q, iI_sub]
  obtain ⟨a, ha⟩ : ∃ a : Int, a = (r1 : Int) - q := ⟨_, rfl⟩
  obtain ⟨b, hb⟩ : ∃ b : Int, b = (r2 : Int) - q := ⟨_, rfl⟩
  obtain ⟨c, hc⟩ : ∃ c : Int, c = (r3 : Int) - q := ⟨_, rfl⟩
  have a9 : a.natAbs ≤ 9 := by omega
  have b9 : b.natAbs ≤ 9 := by omega
  have c9 : c.natAbs ≤ 9 := by omega
  rw [fL_law_b96.eq_1, h1, e1, bd_s, e2, bd_s, e3, bd_s, f, f, f, ← ha, ← hb, ← hc]
  rcases a_try h hN a9 b9 c9 with ⟨x, y, e⟩ | ⟨x, y, e⟩ | ⟨x, y, z, u, e, w1, w2⟩
  · refine ⟨n, A, B, C, (0, la, lb, lc, ln, mx, my, md, mt, mv, mn, rs, rn, rk_), ⟨K, X, Y, D, h⟩, ?_⟩
    rw [e, bd_s]
    dsimp only
    rw [if_pos (by decide), if_pos rfl, fL_law_b208.eq_1, if_pos (by rw [x]; rfl), if_pos (by rw [y]; rfl), fL_law_b223.eq_1, if_pos rfl, fL_law_b228.eq_1, if_pos (by decide), nI_a0]
  · refine ⟨n, A, B, C, (0, la, lb, lc, ln, mx, my, md, mt, mv, mn, rs, rn, rk_), ⟨K, X, Y, D, h⟩, ?_⟩
    rw [e, bd_s]
    dsimp only
    rw [if_pos (by decide), if_neg (by decide), fL_law_b208.eq_1]
    have last : ∀ z : Option Unit, fL_law_b223 N L xs 0 0 z = z := fun z => by rw [fL_law_b223.eq_1, if_pos rfl]
    by_cases c1 : a = 0
    · rw [if_pos (by rw [c1]; rfl), if_neg (by rw [iI_eq0 (sm_of b9)]; exact fun z => x ⟨c1, z⟩), last, fL_law_b228.eq_1, if_pos (by decide), nI_a0]
    · rw [if_neg (by rw [iI_eq0 (sm_of a9)]; exact c1), last, fL_law_b228.eq_1, if_pos (by decide), nI_a0]
  · refine ⟨n + 1, _, _, _, u, w2, ?_⟩
    obtain ⟨K2, X2, Y2, D2, w3⟩ := w2
    have hbk := a_back w3 hN a9 b9 c9 x
    rw [e, bd_s, w1, if_neg (nI_nlt0 (by omega)), if_pos rfl, iI_neg, iI_neg, iI_neg, hbk, bd_s]
    dsimp only
    rw [if_pos rfl, fL_law_b228.eq_1, if_neg (nI_nlt0 (by omega)), nI_1]
/-! one act, and all of them -/
def PI (x3 x4 : Int32) (ge : Int64) (la lb lc : Nat → Int32) (ln : Int32) (mx my md mt mv : Nat → Int32) (mn : Int32) (rs rn : Nat → Int32) (rk_ : Int32) (ev : Nat → Int32) : Prop := ∃ n A B C K X Y D g, x3 = nI n ∧ HS n A B C K X Y D la lb lc ln mx my md mt mv mn rs rn rk_ ∧ Sy g ∧ ge = lN g ∧ x4 = nI (cE g) ∧ EV g ev
abbrev KA : Type := Int32 → Int32 → Int32 → Int64 → (Nat → Int32) → (Nat → Int32) → (Nat → Int32) → Int32 → (Nat → Int32) → (Nat → Int32) → (Nat → Int32) → (Nat → Int32) → (Nat → Int32) → Int32 → (Nat → Int32) → (Nat → Int32) → (Nat → Int32) → Int32 → (Nat → Int32) → Option Unit
theorem t70 {x3 x4 : Int32} {ge : Int64} {ev : Nat → Int32} (h : PI x3 x4 ge la lb lc ln mx my md mt mv mn rs rn rk_ ev) (hN : 70000 ≤ N) (x6 x7 x5 s0 : Int32) (rw_ : Nat → Int32) (k : KA)
    (hk : ∀ x3 x4 ge la lb lc ln mx my md mt mv mn rs rn rw_ rk_ ev, PI x3 x4 ge la lb lc ln mx my md mt mv mn rs rn rk_ ev → k x3 x4 (x5 + 1) ge la lb lc ln mx my md mt mv mn rs rn rw_ rk_ ev = some ()) :
    fL_law_b70 N L xs x6 x7 x3 x4 x5 ge la lb lc ln mx my md mt mv mn rs rn rw_ rk_ ev s0 k = some () := by
  obtain ⟨n, A, B, C, K, X, Y, D, g, rfl, hS, hg, rfl, rfl, hE⟩ := h
  have hn : n ≤ 9 := hS.2.2.1.1
  -- the edges
  have edges : fL_law_b276 N L xs x7 (nI (cE g)) (lN g) ev (fun x4 ge ev => fL_law_b374 N L xs ge la lb lc ln mx my md mt mv mn rs rn rk_ (nI n) x4 x6 x7 x5 rw_ (fun x5 r_w => k (nI n) x4 x5 ge la lb lc ln mx my md mt mv mn rs rn r_w rk_ ev)) = some () := by
    obtain ⟨g', ev', q1, q2, q3⟩ := t276 (L := L) (xs := xs) N hg hE x7 (fun x4 ge ev => fL_law_b374 N L xs ge la lb lc ln mx my md mt mv mn rs rn rk_ (nI n) x4 x6 x7 x5 rw_ (fun x5 r_w => k (nI n) x4 x5 ge la lb lc ln mx my md mt mv mn rs rn r_w rk_ ev))
    obtain ⟨rw', e⟩ := t374 (L := L) (xs := xs) hS hN q1 (nI (cE g')) x6 x7 x5 rw_ (fun x5 r_w => k (nI n) (nI (cE g')) x5 (lN g') la lb lc ln mx my md mt mv mn rs rn r_w rk_ ev')
    exact q3.trans (e.trans (hk _ _ _ _ _ _ _ _ _ _ _ _ _ _ _ _ _ _ ⟨n, A, B, C, K, X, Y, D, g', rfl, hS, q1, rfl, rfl, q2⟩))
  -- a line drawn
  have drawn : ∀ (s0 : Int32) (q : Nat), q ≤ 9 → s0 = nI q → 2 * s0 + 1 = nI (2 * q + 1) → fL_law_b96 N L xs x6 (nI n) la lb lc ln mx my md mt mv mn rs rn rk_ s0 (fun x3 la lb lc ln mx my md mt mv mn rs rn rk_ => fL_law_b374 N L xs (lN g) la lb lc ln mx my md mt mv mn rs rn rk_ x3 (nI (cE g)) x6 x7 x5 rw_ (fun x5 r_w => k x3 (nI (cE g)) x5 (lN g) la lb lc ln mx my md mt mv mn rs rn r_w rk_ ev)) = some () := by
    intro s0 q hq h0 h1
    obtain ⟨n', A', B', C', u, ⟨K', X', Y', D', w⟩, e⟩ := t96 (L := L) (xs := xs) hS hN x6 s0 hq h0 h1 (fun x3 la lb lc ln mx my md mt mv mn rs rn rk_ => fL_law_b374 N L xs (lN g) la lb lc ln mx my md mt mv mn rs rn rk_ x3 (nI (cE g)) x6 x7 x5 rw_ (fun x5 r_w => k x3 (nI (cE g)) x5 (lN g) la lb lc ln mx my md mt mv mn rs rn r_w rk_ ev))
    obtain ⟨rw', e2⟩ := t374 (L := L) (xs := xs) w hN hg (nI (cE g)) x6 x7 x5 rw_ (fun x5 r_w => k (nI n') (nI (cE g)) x5 (lN g) u.2.1 u.2.2.1 u.2.2.2.1 u.2.2.2.2.1 u.2.2.2.2.2.1 u.2.2.2.2.2.2.1 u.2.2.2.2.2.2.2.1 u.2.2.2.2.2.2.2.2.1 u.2.2.2.2.2.2.2.2.2.1 u.2.2.2.2.2.2.2.2.2.2.1 u.2.2.2.2.2.2.2.2.2.2.2.1 u.2.2.2.2.2.2.2.2.2.2.2.2.1 r_w u.2.2.2.2.2.2.2.2.2.2.2.2.2 ev)
    exact e.trans (e2.trans (hk _ _ _ _ _ _ _ _ _ _ _ _ _ _ _ _ _ _ ⟨n', A', B', C', K', X', Y', D', g, rfl, w, hg, rfl, rfl, hE⟩))
  rw [fL_law_b70.eq_1]
  by_cases c4 : 4 ≤ s0
  · rw [if_pos c4]
    by_cases c5 : s0 = 4
    · rw [if_pos c5]
      by_cases c2 : n ≤ 2
      · rw [if_pos (by rw [show (2 : Int32) = nI 2 from rfl, le_n (by omega) (by omega)]; exact c2)]
        exact edges
      · rw [if_neg (by rw [show (2 : Int32) = nI 2 from rfl, le_n (by omega) (by omega)]; exact c2)]
        have hpm : nI n + -1 = nI (n - 1) := by
          have := nI_pm (n - 1)
          rw [show n - 1 + 1 = n by omega] at this
          exact this
        rw [hpm, nI_1, show n - 1 + 1 = n by omega]
        obtain ⟨r, hr, e⟩ := c_low N x6 (k := n) (by omega) (by omega)
        obtain ⟨u, e2, e3, ⟨K', X', Y', D', w⟩⟩ := a_takeAway hS hN hr
        rw [e, bd_s, e2, bdn_s]
        rw [if_pos e3]
        obtain ⟨rw', e4⟩ := t374 (L := L) (xs := xs) w hN hg (nI (cE g)) x6 x7 x5 rw_ (fun x5 r_w => k (nI (n - 1)) (nI (cE g)) x5 (lN g) u.2.1 u.2.2.1 u.2.2.2.1 u.2.2.2.2.1 u.2.2.2.2.2.1 u.2.2.2.2.2.2.1 u.2.2.2.2.2.2.2.1 u.2.2.2.2.2.2.2.2.1 u.2.2.2.2.2.2.2.2.2.1 u.2.2.2.2.2.2.2.2.2.2.1 u.2.2.2.2.2.2.2.2.2.2.2.1 u.2.2.2.2.2.2.2.2.2.2.2.2.1 r_w u.2.2.2.2.2.2.2.2.2.2.2.2.2 ev)
        exact e4.trans (hk _ _ _ _ _ _ _ _ _ _ _ _ _ _ _ _ _ _ ⟨n - 1, _, _, _, K', X', Y', D', g, rfl, w, hg, rfl, rfl, hE⟩)
    · rw [if_neg c5]
      exact edges
  · rw [if_neg c4]
    obtain ⟨r, hr, e⟩ := c_low N (x7 >>> (20 &&& 31)) (k := 3) (by omega) (by omega)
    have e' : fL_low N (x7 >>> (20 &&& 31)) 3 = some (nI r) := e
    rw [e', bd_s]
    by_cases c0 : nI r = 0
    · rw [if_pos c0]
      exact drawn 9 9 (by omega) rfl rfl
    · rw [if_neg c0]
      exact drawn 2 2 (by omega) rfl rfl
theorem cell_ok (hL : L ≤ 260) (xs : Nat → Int32) {q : Nat} (hq : q ≤ 1000) : ∃ v, fL_cell L xs (nI q) = some v := by
  unfold fL_cell
  by_cases c : L ≤ q
  · rw [if_pos (nI_le' (by omega) c)]
    exact ⟨_, rfl⟩
  · rw [if_neg (nI_nle' (by omega) (by omega)), rd_n (by omega) (by omega)]
    exact ⟨_, rfl⟩
theorem law_acts (hL : L ≤ 260) (hN : 70000 ≤ N) : ∀ (f t : Nat), t + f = 25 → 1 ≤ f → ∀ x3 x4 ge la lb lc ln mx my md mt mv mn rs rn rw_ rk_ ev, PI x3 x4 ge la lb lc ln mx my md mt mv mn rs rn rk_ ev → fL_law_b21 N L xs f x3 x4 (nI t) ge la lb lc ln mx my md mt mv mn rs rn rw_ rk_ ev = some ()
  | 0, t, _, h1 => by omega
  | f + 1, t, ht, _ => by
    intro x3 x4 ge la lb lc ln mx my md mt mv mn rs rn rw_ rk_ ev h
    rw [fL_law_b21.eq_2]
    by_cases c : t = 24
    · subst c
      rw [if_pos (by decide)]
    · rw [if_neg (by rw [show (24 : Int32) = nI 24 from rfl, le_n (by omega) (by omega)]; omega)]
      have e2 : 2 * nI t = nI (2 * t) := by rw [show (2 : Int32) = nI 2 from rfl, nI_mulN]
      obtain ⟨v1, q1⟩ := cell_ok hL xs (q := 2 * t) (by omega)
      obtain ⟨v2, q2⟩ := cell_ok hL xs (q := 2 * t + 1) (by omega)
      rw [e2, q1, bd_s, nI_1, q2, bd_s]
      have hk : ∀ x3 x4 ge la lb lc ln mx my md mt mv mn rs rn rw_ rk_ ev, PI x3 x4 ge la lb lc ln mx my md mt mv mn rs rn rk_ ev → fL_law_b21 N L xs f x3 x4 (nI t + 1) ge la lb lc ln mx my md mt mv mn rs rn rw_ rk_ ev = some () := by
        intro x3 x4 ge la lb lc ln mx my md mt mv mn rs rn rw_ rk_ ev h
        rw [nI_1]
        exact law_acts hL hN f (t + 1) (by omega) (by omega) x3 x4 ge la lb lc ln mx my md mt mv mn rs rn rw_ rk_ ev h
      by_cases c3 : (3 : Int32) ≤ nI t
      · rw [if_pos c3]
        obtain ⟨r, hr, e⟩ := c_low N (v1 >>> (20 &&& 31)) (k := 8) (by omega) (by omega)
        have e' : fL_low N (v1 >>> (20 &&& 31)) 8 = some (nI r) := e
        rw [e', bd_s]
        exact t70 h hN v1 v2 (nI t) (nI r) rw_ _ hk
      · rw [if_neg c3]
        exact t70 h hN v1 v2 (nI t) 0 rw_ _ hk
end PLW
theorem rInit_at : ∀ (k s : Nat), s ≤ k → rInit (fun _ => 0) k s = if s = 0 then 0 else -1
  | 0, s, h => by rw [if_pos (by omega)]; rfl
  | k + 1, s, h => by
    show upd (rInit (fun _ => 0) k) (k + 1) (-1) s = _
    by_cases c : s = k + 1
    · rw [c, up_s, if_neg (by omega)]
    · rw [up_n c, rInit_at k s (by omega)]
theorem rB0 (s : Nat) : rB 0 (fun _ => 0) (fun _ => 0) (fun _ => 0) s = decide (s = 0) := by
  by_cases c : s = 0
  · rw [decide_eq_true c]; exact bP_t (real_0.mpr c)
  · rw [decide_eq_false c]; exact bP_f (fun z => c (real_0.mp z))
theorem rk0 : ∀ s, rk (fun s => decide (s = 0)) (s + 1) = 1
  | 0 => rfl
  | s + 1 => by rw [rk_f (decide_eq_false (by omega)), rk0 s]
theorem PI_0 : PI 0 0 0 (fun _ => 0) (fun _ => 0) (fun _ => 0) 0 (fun _ => 0) (fun _ => 0) (fun _ => 0) (fun _ => 0) (fun _ => 0) 0 (fun _ => 0) (rInit (fun _ => 0) 511) 1 (fun _ => 0) := by
  have hf : rB 0 (fun _ => 0) (fun _ => 0) (fun _ => 0) = fun s => decide (s = 0) := funext rB0
  refine ⟨0, fun _ => 0, fun _ => 0, fun _ => 0, 0, fun _ => 0, fun _ => 0, fun _ => 0, 0, rfl, ⟨rfl, fun j h => absurd h (Nat.not_lt_zero j), ⟨by omega, fun j h => absurd h (Nat.not_lt_zero j)⟩, fun a b h => absurd h (Nat.not_lt_zero a), ⟨rfl, by omega, ⟨fun j h => absurd h (Nat.not_lt_zero j), fun j k _ h => absurd h (Nat.not_lt_zero k), fun a b _ h => absurd h (Nat.not_lt_zero a)⟩, fun j h => absurd h (Nat.not_lt_zero j), fun j h => absurd h (Nat.not_lt_zero j), fun j h => absurd h (Nat.not_lt_zero j)⟩, ?_, ?_, ?_⟩, ?_, rfl, ?_, ?_⟩
  · rw [hf, rk0 511]; rfl
  · intro s hs
    rw [hf]
    refine (rInit_at 511 s (by omega)).trans ?_
    by_cases c : s = 0
    · rw [if_pos c, c, if_pos (decide_eq_true rfl)]; rfl
    · rw [if_neg c, if_neg (by rw [decide_eq_true_eq]; exact c)]
  · intro s hs hb
    rw [hf] at hb
    have c : s = 0 := of_decide_eq_true hb
    rw [c]
    rfl
  · refine ⟨by omega, fun a b _ _ h => ?_⟩
    unfold ad at h
    rw [Nat.zero_testBit] at h
    exact absurd h (by decide)
  · have : cE 0 = 0 := by decide +kernel
    rw [this]
    rfl
  · intro a b _ _
    unfold ad
    rw [Nat.zero_testBit]
    rfl
theorem law_good : ∀ (L : Nat) (xs : Nat → Int32), L ≤ 260 → ∃ N, fL_law_b21 N L xs 25 0 0 0 0 (fun _ => 0) (fun _ => 0) (fun _ => 0) 0 (fun _ => 0) (fun _ => 0) (fun _ => 0) (fun _ => 0) (fun _ => 0) 0 (fun _ => 0) (rInit (fun _ => 0) 511) (fun _ => 0) 1 (fun _ => 0) = some () := fun L xs hL => ⟨70000, law_acts hL (Nat.le_refl _) 25 0 rfl (by omega) _ _ _ _ _ _ _ _ _ _ _ _ _ _ _ _ _ _ PI_0⟩
