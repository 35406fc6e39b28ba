/-! ===== what the calls do to its state ===== -/
section PST
abbrev TL : Type := Int32 × (Nat → Int32) × (Nat → Int32) × (Nat → Int32) × Int32 × (Nat → Int32) × (Nat → Int32) × (Nat → Int32) × (Nat → Int32) × (Nat → Int32) × Int32 × (Nat → Int32) × (Nat → Int32) × Int32
def HS (n : Nat) (A B C : Nat → Int) (K : Nat) (X Y D : Nat → Int) (la lb lc : Nat → Int32) (ln : Int32) (mx my md mt mv : Nat → Int32) (mn : Int32) (rs rn : Nat → Int32) (rk_ : Int32) : Prop := ln = nI n ∧ LD n A B C la lb lc ∧ LR n A B C ∧ LU n A B C ∧ StM n A B C K X Y D mx my md mt mv mn ∧ RN n A B C rs rn rk_
/-- the state behind a call that draws or takes away -/
def HT (n : Nat) (A B C : Nat → Int) (u : TL) : Prop := ∃ K X Y D, HS n A B C K X Y D u.2.1 u.2.2.1 u.2.2.2.1 u.2.2.2.2.1 u.2.2.2.2.2.1 u.2.2.2.2.2.2.1 u.2.2.2.2.2.2.2.1 u.2.2.2.2.2.2.2.2.1 u.2.2.2.2.2.2.2.2.2.1 u.2.2.2.2.2.2.2.2.2.2.1 u.2.2.2.2.2.2.2.2.2.2.2.1 u.2.2.2.2.2.2.2.2.2.2.2.2.1 u.2.2.2.2.2.2.2.2.2.2.2.2.2
variable {n : Nat} {A B C : Nat → Int} {la lb lc : Nat → Int32} {N : Nat} {K : Nat} {X Y D : Nat → Int} {mx my md mt mv rs rn rw_ : Nat → Int32} {ln mn rk_ : Int32}
theorem m_full (N : Nat) (hn : n ≤ 9) : fX1_isFull N (nI n) = some (b01 (decide (9 ≤ n))) := by
  rw [fX1_isFull.eq_1]
  by_cases c9 : n < 9
  · rw [if_pos ((lt9 (by omega)).mpr c9), zo_0, decide_eq_false (by omega)]; rfl
  · rw [if_neg (fun z => c9 ((lt9 (by omega)).mp z)), zo_1, decide_eq_true (by omega)]; rfl
theorem a_line (h : HS n A B C K X Y D la lb lc ln mx my md mt mv mn rs rn rk_) (hN : 70000 ≤ N) {a b c : Int} (ha : a.natAbs ≤ 9) (hb : b.natAbs ≤ 9) (hc : c.natAbs ≤ 9) :
    (a = 0 ∧ b = 0 ∧ fX4_line N la lb lc ln mx my md mt mv mn rs rn rk_ (iI a) (iI b) (iI c) = some (.inl xIAE)) ∨
    (¬ (a = 0 ∧ b = 0) ∧ (9 ≤ n ∨ ∃ k, k < n ∧ same (A k) (B k) (C k) a b c) ∧ fX4_line N la lb lc ln mx my md mt mv mn rs rn rk_ (iI a) (iI b) (iI c) = some (.inl xISE)) ∨
    (¬ (a = 0 ∧ b = 0) ∧ n < 9 ∧ (∀ k, k < n → ¬ same (A k) (B k) (C k) a b c) ∧ ∃ u : TL, fX4_line N la lb lc ln mx my md mt mv mn rs rn rk_ (iI a) (iI b) (iI c) = some (.inr u) ∧ u.1 = nI n ∧ HT (n + 1) (fun j => if j = n then a else A j) (fun j => if j = n then b else B j) (fun j => if j = n then c else C j) u) := by
  obtain ⟨rfl, hD, hR, hU, ⟨rfl, hK, hM, hP, hT, hV⟩, hRN⟩ := h
  have hn := hR.1
  by_cases hab : a = 0 ∧ b = 0
  · obtain ⟨rfl, rfl⟩ := hab
    refine Or.inl ⟨rfl, rfl, ?_⟩
    rw [fX4_line.eq_1, c_near N ha, bd_s, if_pos rfl, bd_s, if_pos rfl, c_near N hc, bd_s, if_pos rfl, if_pos (show iI 0 = 0 from rfl), if_pos (show iI 0 = 0 from rfl)]
  · have e1 : fX4_line N la lb lc (nI n) mx my md mt mv (nI K) rs rn rk_ (iI a) (iI b) (iI c) = fX4_line_b39 N (iI a) (iI b) (iI c) la lb lc (nI n) mx my md mt mv (nI K) rs rn rk_ := by
      rw [fX4_line.eq_1, c_near N ha, bd_s, if_pos rfl, c_near N hb, bd_s, if_pos rfl, c_near N hc, bd_s, if_pos rfl]
      by_cases c1 : a = 0
      · rw [if_pos (by rw [iI_eq0 (sm_of ha)]; exact c1), if_neg (by rw [iI_eq0 (sm_of hb)]; exact fun z => hab ⟨c1, z⟩)]
      · rw [if_neg (by rw [iI_eq0 (sm_of ha)]; exact c1)]
    have hfull := m_full N hn
    rw [e1, fX4_line_b39.eq_1, hfull, bd_s]
    by_cases c9 : n < 9
    · rw [decide_eq_false (show ¬ 9 ≤ n by omega), if_pos b01f]
      by_cases hs : ∃ k, k < n ∧ same (A k) (B k) (C k) a b c
      · obtain ⟨k, hk, hs1⟩ := hs
        have hm := m_numberOf_some hD hR hN (a := a) (b := b) (c := c) (by omega) (by omega) (by omega) hk hs1 (fun i hi z => by
          have := same_uniq hU hab (show i < n by omega) hk z hs1
          omega)
        refine Or.inr (Or.inl ⟨hab, Or.inr ⟨k, hk, hs1⟩, ?_⟩)
        rw [hm, bd_s, if_neg (nI_ne_m1 (by omega))]
      · have hno : ∀ i, i < n → ¬ same (A i) (B i) (C i) a b c := fun i hi z => hs ⟨i, hi, z⟩
        have hm := m_numberOf_none hD hR hN (a := a) (b := b) (c := c) (by omega) (by omega) (by omega) hno
        have hD2 := LD_new hD a b c
        have hR2 := LR_new hR c9 ha hb hc hab
        have hU2 := LU_new hU hno
        obtain ⟨K2, X2, Y2, D2, u2, q1, q2, q3⟩ := c_look hD2 hR2 hU2 hN mx my md mt mv rs rn (nI K) rk_
        refine Or.inr (Or.inr ⟨hab, c9, hno, ?_⟩)
        rw [hm, bd_s, if_pos rfl, fX1_append.eq_1, hfull, bd_s, decide_eq_false (show ¬ 9 ≤ n by omega), if_pos b01f, ck_9 c9, ck_9 c9, ck_9 c9, nI_clamp (by omega), bd_s, nI_1]
        dsimp only
        rw [q1, bd_s, fX1_count.eq_1, bd_s]
        exact ⟨_, rfl, nI_sm n, K2, X2, Y2, D2, rfl, hD2, hR2, hU2, q2, q3⟩
    · refine Or.inr (Or.inl ⟨hab, Or.inl (by omega), ?_⟩)
      rw [decide_eq_true (show 9 ≤ n by omega), if_neg b01t]
theorem a_try (h : HS n A B C K X Y D la lb lc ln mx my md mt mv mn rs rn rk_) (hN : 70000 ≤ N) {a b c : Int} (ha : a.natAbs ≤ 9) (hb : b.natAbs ≤ 9) (hc : c.natAbs ≤ 9) :
    (a = 0 ∧ b = 0 ∧ fL_tryLine N la lb lc ln mx my md mt mv mn rs rn rk_ (iI a) (iI b) (iI c) = some (-100, la, lb, lc, ln, mx, my, md, mt, mv, mn, rs, rn, rk_)) ∨
    (¬ (a = 0 ∧ b = 0) ∧ (9 ≤ n ∨ ∃ k, k < n ∧ same (A k) (B k) (C k) a b c) ∧ fL_tryLine N la lb lc ln mx my md mt mv mn rs rn rk_ (iI a) (iI b) (iI c) = some (-200, la, lb, lc, ln, mx, my, md, mt, mv, mn, rs, rn, rk_)) ∨
    (¬ (a = 0 ∧ b = 0) ∧ n < 9 ∧ (∀ k, k < n → ¬ same (A k) (B k) (C k) a b c) ∧ ∃ u : TL, fL_tryLine N la lb lc ln mx my md mt mv mn rs rn rk_ (iI a) (iI b) (iI c) = some u ∧ u.1 = nI n ∧ HT (n + 1) (fun j => if j = n then a else A j) (fun j => if j = n then b else B j) (fun j => if j = n then c else C j) u) := by
  rcases a_line h hN ha hb hc with ⟨x, y, e⟩ | ⟨x, y, e⟩ | ⟨x, y, z, u, e, w⟩
  · exact Or.inl ⟨x, y, by rw [fL_tryLine.eq_1, e, bdc_l, if_pos rfl]⟩
  · exact Or.inr (Or.inl ⟨x, y, by rw [fL_tryLine.eq_1, e, bdc_l, if_neg xne3, if_pos rfl]⟩)
  · exact Or.inr (Or.inr ⟨x, y, z, u, by rw [fL_tryLine.eq_1, e, bdc_r], w⟩)
/-- told the other way round it is there -/
theorem a_back {a b c : Int} (h : HS (n + 1) (fun j => if j = n then a else A j) (fun j => if j = n then b else B j) (fun j => if j = n then c else C j) K X Y D la lb lc ln mx my md mt mv mn rs rn rk_) (hN : 70000 ≤ N) (ha : a.natAbs ≤ 9) (hb : b.natAbs ≤ 9) (hc : c.natAbs ≤ 9) (hab : ¬ (a = 0 ∧ b = 0)) :
    fL_tryLine N la lb lc ln mx my md mt mv mn rs rn rk_ (iI (-a)) (iI (-b)) (iI (-c)) = some (-200, la, lb, lc, ln, mx, my, md, mt, mv, mn, rs, rn, rk_) := by
  rcases a_try h hN (a := -a) (b := -b) (c := -c) (by omega) (by omega) (by omega) with ⟨x, y, e⟩ | ⟨x, y, e⟩ | ⟨x, y, z, u, e, w⟩
  · exact (hab ⟨by omega, by omega⟩).elim
  · exact e
  · exfalso
    have q : same a b c (-a) (-b) (-c) := by
      unfold same
      refine ⟨?_, ?_, ?_⟩ <;> grind
    apply z n (by omega)
    show same (if n = n then a else A n) (if n = n then b else B n) (if n = n then c else C n) (-a) (-b) (-c)
    rw [if_pos rfl, if_pos rfl, if_pos rfl]
    exact q
theorem a_takeAway (h : HS n A B C K X Y D la lb lc ln mx my md mt mv mn rs rn rk_) (hN : 70000 ≤ N) {i : Nat} (hi : i < n) :
    ∃ u : TL, fX4_takeAway N la lb lc ln mx my md mt mv mn rs rn rk_ (nI i) = some (.inr u) ∧ u.1 = nI (n - 1) ∧ HT (n - 1) (rem i A) (rem i B) (rem i C) u := by
  obtain ⟨rfl, hD, hR, hU, ⟨rfl, hK, hM, hP, hT, hV⟩, hRN⟩ := h
  have hn := hR.1
  have hD2 := LD_rem hD hi
  have hR2 := LR_rem hR hi
  have hU2 := LU_rem hU hi
  obtain ⟨K2, X2, Y2, D2, u2, q1, q2, q3⟩ := c_look hD2 hR2 hU2 hN mx my md mt mv rs rn (nI K) rk_
  rw [fX4_takeAway.eq_1, c_checkLine_t N hn hi, bdx_r, c_remove hn hN hi, bd_s]
  dsimp only
  rw [q1, bd_s, fX1_count.eq_1, bd_s]
  exact ⟨_, rfl, rfl, K2, X2, Y2, D2, rfl, hD2, hR2, hU2, q2, q3⟩
theorem a_kal (hD : LD n A B C la lb lc) (hR : LR n A B C) (hU : LU n A B C) (hN : 70000 ≤ N) :
    ∃ w : Nat → Nat → Int32, (∀ l m, l < n → m < n → fX1_mirrored N la lb lc (nI n) (nI l) (nI m) = some (w l m)) ∧ fX4_isKaleidoscope N la lb lc (nI n) = some (b01 (bP (∀ l, l < n → ∀ m, m < n → w l m ≠ -1))) := by
  have hn := hR.1
  obtain ⟨w, hw⟩ : ∃ w : Nat → Nat → Int32, w = fun l m => (fX1_mirrored N la lb lc (nI n) (nI l) (nI m)).getD 0 := ⟨_, rfl⟩
  have hc : ∀ l m, l < n → m < n → fX1_mirrored N la lb lc (nI n) (nI l) (nI m) = some (w l m) := by
    intro l m hl hm
    rw [hw]
    dsimp only
    rcases a_mirr hD hR hU hN hl hm with ⟨e, -⟩ | ⟨k, -, e, -⟩ <;> rw [e] <;> rfl
  refine ⟨w, hc, ?_⟩
  rw [fX4_isKaleidoscope.eq_1]
  have hin : ∀ l, l < n → ∀ Kc : Option Int32, ((∃ m, m < n ∧ w l m = -1) → fX4_isKaleidoscope_b15 N la lb lc (nI n) (nI l) Kc N 0 = some 0) ∧ (¬ (∃ m, m < n ∧ w l m = -1) → fX4_isKaleidoscope_b15 N la lb lc (nI n) (nI l) Kc N 0 = Kc) := by
    intro l hl Kc
    rcases loop_find (fun f m => fX4_isKaleidoscope_b15 N la lb lc (nI n) (nI l) Kc f (nI m)) (fun m => w l m = -1) (fun _ => some 0) Kc n
      (fun f => by rw [fX4_isKaleidoscope_b15.eq_2, fX1_count.eq_1, bd_s, if_pos (nI_le' (by omega) (Nat.le_refl n))])
      (fun f m hm h => by rw [fX4_isKaleidoscope_b15.eq_2, fX1_count.eq_1, bd_s, if_neg (nI_nle' (by omega) hm), hc l m hl hm, bd_s, if_pos h, zo_0])
      (fun f m hm h => by rw [fX4_isKaleidoscope_b15.eq_2, fX1_count.eq_1, bd_s, if_neg (nI_nle' (by omega) hm), hc l m hl hm, bd_s, if_neg h, nI_1])
      n N 0 (by omega) (by omega) with ⟨i, -, h1, h2, -, h3⟩ | ⟨h1, h2⟩
    · exact ⟨fun _ => h3, fun z => absurd ⟨i, h1, h2⟩ z⟩
    · exact ⟨fun ⟨i, hi, z⟩ => absurd z (h1 i (Nat.zero_le i) hi), fun _ => h2⟩
  rcases loop_find (fun f l => fX4_isKaleidoscope_b2 N la lb lc (nI n) f (nI l)) (fun l => ∃ m, m < n ∧ w l m = -1) (fun _ => some 0) (some 1) n
    (fun f => by rw [fX4_isKaleidoscope_b2.eq_2, fX1_count.eq_1, bd_s, if_pos (nI_le' (by omega) (Nat.le_refl n)), zo_1])
    (fun f l hl h => by rw [fX4_isKaleidoscope_b2.eq_2, fX1_count.eq_1, bd_s, if_neg (nI_nle' (by omega) hl), (hin l hl _).1 h])
    (fun f l hl h => by rw [fX4_isKaleidoscope_b2.eq_2, fX1_count.eq_1, bd_s, if_neg (nI_nle' (by omega) hl), (hin l hl _).2 h, nI_1])
    n N 0 (by omega) (by omega) with ⟨i, -, h1, ⟨m, hm, h2⟩, -, h3⟩ | ⟨h1, h2⟩
  · rw [bP_f (fun z => z i h1 m hm h2)]; exact h3
  · rw [bP_t (fun l hl m hm z => h1 l (Nat.zero_le l) hl ⟨m, hm, z⟩)]; exact h2
/-! the graph: one number, and its EDGES as a list -/
def EL (g : Nat) : List (Nat × Nat) := ((List.range 15).filter (fun i => ad g (pA i) (pB i))).map (fun i => (pA i, pB i))
theorem EL_mem {g : Nat} {e : Nat × Nat} : e ∈ EL g ↔ ∃ i, i < 15 ∧ ad g (pA i) (pB i) = true ∧ e = (pA i, pB i) := by
  unfold EL
  rw [List.mem_map]
  constructor
  · rintro ⟨i, hi, rfl⟩
    rw [List.mem_filter, List.mem_range] at hi
    exact ⟨i, hi.1, hi.2, rfl⟩
  · rintro ⟨i, h1, h2, rfl⟩
    exact ⟨i, by rw [List.mem_filter, List.mem_range]; exact ⟨h1, h2⟩, rfl⟩
theorem EL_len (g : Nat) : (EL g).length ≤ 15 := by
  unfold EL
  rw [List.length_map]
  exact Nat.le_trans (List.length_filter_le _ _) (by rw [List.length_range]; exact Nat.le_refl 15)
theorem EL_rep {g : Nat} (hs : Sy g) : Rep (EL g) g := by
  refine ⟨hs, ?_, ?_⟩
  · intro e he
    obtain ⟨i, hi, -, rfl⟩ := EL_mem.mp he
    obtain ⟨h1, h2, h3⟩ := pAB i hi
    exact ⟨h1, h2, by show pA i ≠ pB i; omega⟩
  · intro a b ha hb
    unfold inE
    rw [EL_mem, EL_mem]
    constructor
    · intro h
      obtain ⟨h1, h2⟩ := hs.2 a b ha hb h
      rcases Nat.lt_or_ge a b with c | c
      · obtain ⟨i, hi, q1, q2⟩ := p_ex a ha b hb c
        exact Or.inl ⟨i, hi, by rw [q1, q2]; exact h, by rw [q1, q2]⟩
      · obtain ⟨i, hi, q1, q2⟩ := p_ex b hb a ha (by omega)
        exact Or.inr ⟨i, hi, by rw [q1, q2]; exact h1, by rw [q1, q2]⟩
    · rintro (⟨i, hi, h, e⟩ | ⟨i, hi, h, e⟩)
      · obtain ⟨rfl, rfl⟩ := Prod.mk.inj e
        exact h
      · obtain ⟨rfl, rfl⟩ := Prod.mk.inj e
        obtain ⟨h1, h2, h3⟩ := pAB i hi
        exact (hs.2 _ _ h1 h2 h).1
theorem EL_PD (g : Nat) : PD (EL g) := by
  unfold PD EL
  rw [List.pairwise_map]
  have h0 : (List.range 15).Pairwise (fun a b => a < b) := List.pairwise_lt_range
  have h1 : ((List.range 15).filter (fun i => ad g (pA i) (pB i))).Pairwise (fun a b => a < b) := by
    first
    | exact List.Pairwise.sublist List.filter_sublist h0
    | exact List.Pairwise.sublist (List.filter_sublist _) h0
    | exact h0.filter _
  refine List.Pairwise.imp_of_mem ?_ h1
  intro i j hi hj hij
  rw [List.mem_filter, List.mem_range] at hi hj
  obtain ⟨a1, a2, a3⟩ := pAB i hi.1
  obtain ⟨b1, b2, b3⟩ := pAB j hj.1
  refine ⟨?_, ?_⟩
  · intro e
    obtain ⟨e1, e2⟩ := Prod.mk.inj e
    have := p_inj j hj.1 i hi.1 e1 e2
    omega
  · intro e
    obtain ⟨e1, e2⟩ := Prod.mk.inj e
    have e3 : pA j = pB i := e1
    have e4 : pB j = pA i := e2
    omega
theorem rk_flip {p q : Nat → Bool} {i0 : Nat} (hp : p i0 = false) (hq : q i0 = true) : ∀ {m : Nat}, i0 < m → (∀ i, i < m → i ≠ i0 → p i = q i) → rk q m = rk p m + 1
  | 0, h, _ => by omega
  | m + 1, h, e => by
    by_cases c : i0 = m
    · subst c
      have a1 := rk_t (p := q) hq
      have a2 := rk_f (p := p) hp
      have a3 := rk_cong (p := p) (q := q) (s := i0) (fun i hi => e i (by omega) (by omega))
      omega
    · have a1 := rk_flip hp hq (show i0 < m by omega) (fun i hi => e i (by omega))
      have a2 := rk_s q m
      have a3 := rk_s p m
      rw [e m (by omega) (fun z => c z.symm)] at a3
      omega
theorem tie_Sy {g : Nat} (hs : Sy g) {a b : Nat} (ha : a < 6) (hb : b < 6) (hab : a ≠ b) : Sy (g ^^^ tieN a b) := by
  refine ⟨Nat.xor_lt_two_pow hs.1 (tie_lt ha hb), fun x y hx hy h => ?_⟩
  rw [tog_t ha hb hx hy] at h
  rw [tog_t ha hb hy hx]
  by_cases c : (x = a ∧ y = b) ∨ (x = b ∧ y = a)
  · have h1 : ¬ ad g x y = true := fun z => h ⟨fun _ => c, fun _ => z⟩
    have h2 : ¬ ad g y x = true := fun z => h1 (hs.2 y x hy hx z).1
    refine ⟨fun z => ?_, by omega⟩
    have := z.mpr (by omega)
    exact h2 this
  · have h1 : ad g x y = true := by
      apply Classical.byContradiction
      intro z
      exact h ⟨fun q => absurd q z, fun q => absurd q c⟩
    obtain ⟨h2, h3⟩ := hs.2 x y hx hy h1
    refine ⟨fun z => ?_, h3⟩
    have := z.mp h2
    exact c (by omega)
theorem cE_tog {g : Nat} (hs : Sy g) {a b : Nat} (ha : a < 6) (hb : b < 6) (hab : a ≠ b) : (ad g a b = false → cE (g ^^^ tieN a b) = cE g + 1) ∧ (ad g a b = true → cE g = cE (g ^^^ tieN a b) + 1) := by
  obtain ⟨i0, hi0, q⟩ : ∃ i0, i0 < 15 ∧ ((pA i0 = a ∧ pB i0 = b) ∨ (pA i0 = b ∧ pB i0 = a)) := by
    rcases Nat.lt_or_ge a b with c | c
    · obtain ⟨i, hi, q1, q2⟩ := p_ex a ha b hb c
      exact ⟨i, hi, Or.inl ⟨q1, q2⟩⟩
    · obtain ⟨i, hi, q1, q2⟩ := p_ex b hb a ha (by omega)
      exact ⟨i, hi, Or.inr ⟨q1, q2⟩⟩
  have hsw : ∀ g', Sy g' → ad g' (pA i0) (pB i0) = ad g' a b := by
    intro g' hg'
    rcases q with ⟨q1, q2⟩ | ⟨q1, q2⟩
    · rw [q1, q2]
    · rw [q1, q2, Bool.eq_iff_iff]
      exact ⟨fun z => (hg'.2 b a hb ha z).1, fun z => (hg'.2 a b ha hb z).1⟩
  have hoth : ∀ i, i < 15 → i ≠ i0 → ad g (pA i) (pB i) = ad (g ^^^ tieN a b) (pA i) (pB i) := by
    intro i hi hne
    obtain ⟨h1, h2, h3⟩ := pAB i hi
    obtain ⟨h1', h2', h3'⟩ := pAB i0 hi0
    have hno : ¬ ((pA i = a ∧ pB i = b) ∨ (pA i = b ∧ pB i = a)) := by
      intro z
      have : pA i = pA i0 ∧ pB i = pB i0 := by omega
      exact hne (p_inj i hi i0 hi0 this.1 this.2)
    rw [Bool.eq_iff_iff, tog_t ha hb h1 h2]
    constructor
    · intro z w
      exact hno (w.mp z)
    · intro z
      apply Classical.byContradiction
      intro w
      exact z ⟨fun q => absurd q w, fun q => absurd q hno⟩
  have htog : ad (g ^^^ tieN a b) a b = !ad g a b := by
    have := tog_t (g := g) ha hb ha hb
    cases hh : ad g a b with
    | false =>
      rw [hh] at this
      exact this.mpr (fun z => by have := z.mpr (Or.inl ⟨rfl, rfl⟩); exact absurd this (by decide))
    | true =>
      rw [hh] at this
      cases h2 : ad (g ^^^ tieN a b) a b with
      | false => rfl
      | true => exact absurd ⟨fun _ => Or.inl ⟨rfl, rfl⟩, fun _ => rfl⟩ (this.mp h2)
  have hs2 := tie_Sy hs ha hb hab
  unfold cE
  constructor
  · intro h
    exact rk_flip (i0 := i0) (by rw [hsw g hs]; exact h) (by rw [hsw _ hs2, htog, h]; rfl) hi0 hoth
  · intro h
    exact rk_flip (i0 := i0) (by rw [hsw _ hs2, htog, h]; rfl) (by rw [hsw g hs]; exact h) hi0 (fun i hi hne => (hoth i hi hne).symm)
theorem a_edge (N : Nat) {g : Nat} (hs : Sy g) {a b : Nat} (ha : a < 6) (hb : b < 6) (hab : a ≠ b) : fX4_edge N (lN g) (nI a) (nI b) = some (.inr (nI (cE (g ^^^ tieN a b)), lN (g ^^^ tieN a b))) := by
  have hne : ¬ nI a = nI b := by rw [nI_eq (by omega) (by omega)]; exact hab
  rw [fX4_edge.eq_1, c_dot_t N ha, bd_s, if_neg one_ne0, c_dot_t N hb, bd_s, if_neg one_ne0, if_neg hne, fX0_turn.eq_1, c_tie N ha hb, bd_s, bd_s, ln_xor, c_count N (tie_Sy hs ha hb hab), bd_s]
theorem cc_le (c g : Nat) : ∀ (r dot : Nat) (col : Nat → Nat), cc c g r dot col ≤ c ^ r
  | 0, dot, col => Nat.le_refl 1
  | r + 1, dot, col => by
    rw [cc_s, Nat.pow_succ, Nat.mul_comm]
    refine sumN_le (fun k hk => ?_)
    split
    · exact cc_le c g r _ _
    · exact Nat.zero_le _
theorem a_col (hN : 70000 ≤ N) {g : Nat} (hs : Sy g) {c : Nat} (hc : c ≤ 6) : fX4_colourings N (lN g) (nI c) = some (.inr (nI (cc c g 6 0 (fun _ => 0)))) := by
  have h := c_tried hN hs hc 6 16 0 0 (fun _ => 0) rfl (by omega) (by omega) (fun k j hk hj => ⟨fun z => by unfold ad at z; rw [Nat.zero_testBit] at z; exact absurd z (by decide), fun z => absurd z.1 (by omega)⟩)
  have h2 : fX0_tried N 16 (lN g) (nI c) 0 0 = some (nI (cc c g 6 0 (fun _ => 0))) := h
  rw [fX4_colourings.eq_1, c_col_t N (by omega), bdx_r, fX0_tryAllColours.eq_1, h2, bd_s, bd_s]
theorem a_colA (hN : 70000 ≤ N) {g : Nat} (hs : Sy g) {c : Nat} (hc : c ≤ 6) (h0 : 0 < c) : fX4_colouringsAnew N (lN g) (nI c) = some (.inr (nI (cc c g 6 0 (fun _ => 0)))) := by
  have hl := EL_len g
  have h := c_apart hN (c : Int) 16 (EL g) g 6 0 (EL_rep hs) (by omega) (by omega) (by omega)
  have e : tT (c : Int) (EL g) rid 1 6 = ((cc c g 6 0 (fun _ => 0) : Nat) : Int) := by rw [cc_cL (EL_rep hs), col_sum h0 (Rep_in6 (EL_rep hs))]
  have e3 : iI ((c : Nat) : Int) = nI c := iI_nI c
  have e4 : iI (((cc c g 6 0 (fun _ => 0) : Nat) : Int)) = nI (cc c g 6 0 (fun _ => 0)) := iI_nI _
  rw [e, e3, e4] at h
  have h2 : fX0_apart N 16 (lN g) (nI c) 6 0 = some (nI (cc c g 6 0 (fun _ => 0))) := h
  rw [fX4_colouringsAnew.eq_1, c_col_t N (by omega), bdx_r, fX0_takeApart.eq_1, h2, bd_s, bd_s]
theorem TR_em : TR 0 emT := ⟨by omega, fun x y _ _ => ⟨fun z => by unfold ad at z; rw [Nat.zero_testBit] at z; exact absurd z (by decide), fun z => z.elim⟩⟩
theorem em_ir : irR emT := fun _ h => h
theorem a_dir (hN : 70000 ≤ N) {g : Nat} (hs : Sy g) : fX4_directions N (lN g) = some (nI (aT (EL g) emT)) := by
  have hl := EL_len g
  have h := c_dir hN 16 (EL g) g 0 0 emT (EL_rep hs) (EL_PD g) (by omega) (by omega) TR_em em_tr em_ir
  have h2 : fX0_directed N 16 (lN g) 0 0 = some (nI (aT (EL g) emT)) := h
  rw [fX4_directions.eq_1, fX0_tryAllDirections.eq_1, h2, bd_s, bd_s]
theorem a_dirA (hN : 70000 ≤ N) {g : Nat} (hs : Sy g) : fX4_directionsAnew N (lN g) = some (nI (aT (EL g) emT)) := by
  have hl := EL_len g
  have h := c_apart hN (-1) 16 (EL g) g 6 0 (EL_rep hs) (by omega) (by omega) (by omega)
  have e4 : iI (((aT (EL g) emT : Nat) : Int)) = nI (aT (EL g) emT) := iI_nI _
  rw [← dir_sum (Rep_in6 (EL_rep hs)), e4] at h
  have h2 : fX0_apart N 16 (lN g) (-1) 6 0 = some (nI (aT (EL g) emT)) := h
  rw [fX4_directionsAnew.eq_1, fX0_takeApart.eq_1, h2, bd_s, bd_s]
end PST
