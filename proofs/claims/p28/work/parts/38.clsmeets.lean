/-! ===== the class finds the MEETS ===== -/
section CFM
abbrev MR5 : Type := (Nat → Int32) × (Nat → Int32) × (Nat → Int32) × (Nat → Int32) × Int32
variable {Q : Nat → Nat → Prop} {n : Nat} {A B C : Nat → Int} {k : Nat} {X Y D : Nat → Int} {T : Nat → Nat} {mx my md mt : Nat → Int32} {N : Nat} {la lb lc : Nat → Int32}
/-- the sets of LINES in the row -/
def TI (Q : Nat → Nat → Prop) (n : Nat) (A B C : Nat → Int) (k : Nat) (X Y D : Nat → Int) (T : Nat → Nat) : Prop := ∀ j, j < k → T j < 512 ∧ ∀ l, (T j).testBit l = true ↔ ∃ m, (Q l m ∨ Q m l) ∧ At n A B C l m (X j) (Y j) (D j)
def Tp (k : Nat) (T : Nat → Nat) (mt : Nat → Int32) : Prop := ∀ j, j < k → mt j = nI (T j)
theorem c_order (hP : Rp k X Y D mx my md) (hk : k ≤ 36) {j : Nat} (hj : j < k) {x y d : Int} (b1 : (X j).natAbs ≤ 162) (b3 : (D j).natAbs ≤ 162) (hx : x.natAbs ≤ 162) (hd : d.natAbs ≤ 162) : fX2_order N mx my md (nI j) (iI x) (iI y) (iI d) = some (iI (ordv (X j) (Y j) (D j) x y d)) := by
  obtain ⟨g1, g2, g3⟩ := hP j hj
  have m1 := mb b1 hd; have m2 := mb hx b3
  have s1 : sm (X j * d - x * D j) := by unfold sm; omega
  rw [fX2_order.eq_1, rd_36 (by omega), rd_36 (by omega), g1, g3, iI_mul, iI_mul, iI_sub, nm_s]
  unfold ordv
  by_cases c : X j * d - x * D j = 0
  · rw [if_pos (by rw [iI_eq0 s1]; exact c), rd_36 (by omega), rd_36 (by omega), g2, g3, iI_mul, iI_mul, iI_sub, if_pos c]
  · rw [if_neg (by rw [iI_eq0 s1]; exact c), if_neg c]
theorem ordv_sm {x y d x' y' d' : Int} (h1 : x.natAbs ≤ 162) (h2 : y.natAbs ≤ 162) (h3 : d.natAbs ≤ 162) (h4 : x'.natAbs ≤ 162) (h5 : y'.natAbs ≤ 162) (h6 : d'.natAbs ≤ 162) : sm (ordv x y d x' y' d') := by
  have := mb h1 h6; have := mb h4 h3; have := mb h2 h6; have := mb h5 h3
  unfold ordv sm
  split <;> omega
theorem c_shift (N : Nat) {p k : Nat} (fx fy fd ft : Nat → Int32) (hk : k < 36) :
    ∀ (m f t : Nat), t = p + m → m < f → t ≤ k → fX2_makeWay_b5 N (nI p) f (nI t) (shA t k fx) (shA t k fy) (shA t k fd) (shA t k ft) (nI k) = some (shA p k fx, shA p k fy, shA p k fd, shA p k ft, nI (k + 1)) := by
  intro m
  induction m with
  | zero =>
    intro f t ht hf hk2
    obtain ⟨f', rfl⟩ : ∃ f', f = f' + 1 := ⟨f - 1, by omega⟩
    obtain rfl : t = p := by omega
    rw [fX2_makeWay_b5.eq_2, if_pos (nI_le' (by omega) (Nat.le_refl t)), nI_1]
  | succ m ih =>
    intro f t ht hf hk2
    obtain ⟨f', rfl⟩ : ∃ f', f = f' + 1 := ⟨f - 1, by omega⟩
    obtain ⟨t', rfl⟩ : ∃ t', t = t' + 1 := ⟨t - 1, by omega⟩
    rw [fX2_makeWay_b5.eq_2, if_neg (nI_nle' (by omega) (by omega)), nI_sm, rd_36 (by omega), ck_36 (by omega), rd_36 (by omega), ck_36 (by omega), rd_36 (by omega), ck_36 (by omega), rd_36 (by omega), ck_36 (by omega), nI_pm, nI_clamp (by omega), shA_r, shA_r, shA_r, shA_r, shA_s hk2, shA_s hk2, shA_s hk2, shA_s hk2]
    exact ih f' t' (by omega) (by omega) (by omega)
theorem c_makeWay {N : Nat} {p k : Nat} (fx fy fd ft : Nat → Int32) (hk : k < 36) (hp : p ≤ k) (hN : 70000 ≤ N) : fX2_makeWay N fx fy fd ft (nI k) (nI p) = some (shA p k fx, shA p k fy, shA p k fd, shA p k ft, nI (k + 1)) := by
  have h := c_shift N (p := p) fx fy fd ft hk (k - p) N k (by omega) (by omega) (Nat.le_refl k)
  rw [shA_0, shA_0, shA_0, shA_0] at h
  rw [fX2_makeWay.eq_1]
  exact h
theorem Tp_ins {p : Nat} {v : Nat} (h : Tp k T mt) (hp : p ≤ k) : Tp (k + 1) (insF p v T) (upd (shA p k mt) p (nI v)) := by
  intro j hj
  rcases Nat.lt_trichotomy j p with c | c | c
  · rw [up_n (by omega), insF_lt c, ← h j (by omega)]
    unfold shA
    rw [if_neg (by omega)]
  · subst c
    rw [up_s, insF_eq]
  · rw [up_n (by omega), insF_gt c, ← h (j - 1) (by omega)]
    unfold shA
    rw [if_pos (by omega)]
/-- the search for the place -/
theorem c_search (h : RowQ Q n A B C k X Y D) (hR : LR n A B C) (hP : Rp k X Y D mx my md) (hk : k ≤ 36) {x y d : Int} (hx : x.natAbs ≤ 162) (hy : y.natAbs ≤ 162) (hd : d.natAbs ≤ 162) (K : Int32 → Option MR5) :
    ∀ (m f j : Nat), j + m = k → m < f → (∀ i, i < j → lt3 (X i) (Y i) (D i) x y d) → ∃ p, p ≤ k ∧ (∀ i, i < p → lt3 (X i) (Y i) (D i) x y d) ∧ (p < k → ¬ lt3 (X p) (Y p) (D p) x y d) ∧ fX2_enter_b62 N mx my md (nI k) (iI x) (iI y) (iI d) K f (nI j) = K (nI p) := by
  intro m
  induction m with
  | zero =>
    intro f j hj hf hlo
    obtain ⟨f', rfl⟩ : ∃ f', f = f' + 1 := ⟨f - 1, by omega⟩
    obtain rfl : j = k := by omega
    refine ⟨j, Nat.le_refl j, hlo, fun z => by omega, ?_⟩
    rw [fX2_enter_b62.eq_2, if_pos (nI_le' (by omega) (Nat.le_refl j))]
  | succ m ih =>
    intro f j hj hf hlo
    obtain ⟨f', rfl⟩ : ∃ f', f = f' + 1 := ⟨f - 1, by omega⟩
    obtain ⟨v1, v2, v3, v4⟩ := RowQ_bd h hR (show j < k by omega)
    have hs := ordv_sm v1 v2 v3 hx hy hd
    rw [fX2_enter_b62.eq_2, if_neg (nI_nle' (by omega) (by omega)), c_order hP hk (by omega) v1 v3 hx hd, bd_s]
    by_cases c : ordv (X j) (Y j) (D j) x y d < 0
    · rw [if_neg (by rw [iI_ge0 hs]; omega), nI_1]
      refine ih f' (j + 1) (by omega) (by omega) (fun i hi => ?_)
      by_cases e : i = j
      · subst e; exact ordv_lt.mp c
      · exact hlo i (by omega)
    · rw [if_pos (by rw [iI_ge0 hs]; omega)]
      exact ⟨j, by omega, hlo, fun _ z => c (ordv_lt.mpr z), rfl⟩
theorem RowQ_ne (h : RowQ Q n A B C k X Y D) {i j : Nat} (hi : i < k) (hj : j < k) (hij : i ≠ j) (e : eq3 (X i) (Y i) (D i) (X j) (Y j) (D j)) : False := by
  rcases Nat.lt_trichotomy i j with c | c | c
  · exact lt3_irr (h.2.1 i j c hj) e
  · exact hij c
  · exact lt3_irr (h.2.1 j i c hi) ⟨e.1.symm, e.2.symm⟩
theorem bit2 {a b l : Nat} : (2 ^ a ||| 2 ^ b).testBit l = true ↔ l = a ∨ l = b := by
  rw [Nat.testBit_or, Nat.testBit_two_pow, Nat.testBit_two_pow, Bool.or_eq_true, decide_eq_true_eq, decide_eq_true_eq]
  omega
theorem or_lt {a b : Nat} (ha : a < 512) (hb : b < 512) : a ||| b < 512 := Nat.or_lt_two_pow (n := 9) ha hb
theorem pw_lt {a n : Nat} (h : a < n) (hn : n ≤ 9) : 2 ^ a < 512 := Nat.pow_lt_pow_right (n := 9) (by omega) (by omega)
/-- one pair's crossing, entered -/
theorem c_enter (h : RowQ Q n A B C k X Y D) (hT : TI Q n A B C k X Y D T) (hR : LR n A B C) (hP : Rp k X Y D mx my md) (hTp : Tp k T mt) (hk : k < 36) (hN : 70000 ≤ N) {a b : Nat} (ha : a < n) (hb : b < n) (h0 : cr A B a b ≠ 0) :
    ∃ k2 X2 Y2 D2 T2 x2 y2 d2 t2, k2 ≤ k + 1 ∧ RowQ (addQ Q a b) n A B C k2 X2 Y2 D2 ∧ TI (addQ Q a b) n A B C k2 X2 Y2 D2 T2 ∧ Rp k2 X2 Y2 D2 x2 y2 d2 ∧ Tp k2 T2 t2 ∧
      fX2_enter N mx my md mt (nI k) (iI (sgn1 (cr A B a b) * cr C B a b)) (iI (sgn1 (cr A B a b) * cr A C a b)) (iI (sgn1 (cr A B a b) * cr A B a b)) (nI (2 ^ a ||| 2 ^ b)) = some (x2, y2, d2, t2, nI k2) := by
  have hn := hR.1
  obtain ⟨c1, c2, c3⟩ := cr_bd hR ha hb
  obtain ⟨x, y, d, g, hg, hg0, hg162, hr, hat, e1, e2, e3, b1, b2, b3⟩ := red_ex hR ha hb h0
  obtain ⟨s, hs⟩ : ∃ s, s = sgn1 (cr A B a b) := ⟨_, rfl⟩
  have hso : s = 1 ∨ s = -1 := by rw [hs]; exact sgn1_or _
  rw [← hs] at e1 e2 e3 ⊢
  have hw : ∀ {u v : Int}, u = (g : Int) * (s * v) → s * u = (g : Int) * v ∧ (s * u).natAbs = u.natAbs := by
    intro u v e
    have hss : s * s = 1 := by rcases hso with z | z <;> rw [z] <;> rfl
    refine ⟨by rw [e, Int.mul_left_comm, ← Int.mul_assoc s s, hss, Int.one_mul], ?_⟩
    rcases hso with z | z <;> rw [z] <;> omega
  obtain ⟨w1, w1'⟩ := hw e1
  obtain ⟨w2, w2'⟩ := hw e2
  obtain ⟨w3, w3'⟩ := hw e3
  have hgcd : Int.gcd (Int.gcd (s * cr C B a b) (s * cr A C a b)) (s * cr A B a b) = g := by
    show Nat.gcd (Nat.gcd (s * cr C B a b).natAbs (s * cr A C a b).natAbs) (s * cr A B a b).natAbs = g
    rw [w1', w2', w3']
    exact hg.symm
  have hgc : Int.gcd (s * cr C B a b) (s * cr A C a b) ≤ 162 := by
    show Nat.gcd (s * cr C B a b).natAbs (s * cr A C a b).natAbs ≤ 162
    rw [w1', w2']
    by_cases z : cr C B a b = 0
    · rw [z, Int.natAbs_zero, Nat.gcd_zero_left]; exact c3
    · exact Nat.le_trans (Nat.gcd_le_left _ (Int.natAbs_pos.mpr z)) c2
  -- the divided numbers
  have hone : ∀ {u v : Int}, u = (g : Int) * v → u.natAbs ≤ 162 → g ≤ 1 → iI u = iI v := by
    intro u v e _ h1
    obtain rfl : g = 1 := by omega
    rw [e]; simp
  have hdiv : ∀ {u v : Int}, u = (g : Int) * v → u.natAbs ≤ 162 → iI u / nI g = iI v := by
    intro u v e hb
    rw [← iI_nI, iI_div' (by omega) (by unfold sm; omega), e]
    congr 1
    exact Int.mul_tdiv_cancel_left _ (by omega)
  have hgnz : ¬ nI g = 0 := by rw [z_nI, nI_eq (by omega) (by omega)]; omega
  have key : fX2_enter N mx my md mt (nI k) (iI (s * cr C B a b)) (iI (s * cr A C a b)) (iI (s * cr A B a b)) (nI (2 ^ a ||| 2 ^ b)) = fX2_enter_b62 N mx my md (nI k) (iI x) (iI y) (iI d) (fun (x9_231 : Int32) => if (nI k) ≤ x9_231 then fX2_enter_b131 N (nI (2 ^ a ||| 2 ^ b)) (iI x) (iI y) (iI d) x9_231 mx my md mt (nI k) else bd (fX2_order N mx my md x9_231 (iI x) (iI y) (iI d)) (fun u_233 => if u_233 = 0 then rd mt 36 x9_231 (fun v_236 => ck 36 x9_231 (some (mx, my, md, (upd mt (Int32.toNatClampNeg x9_231) (v_236 ||| (nI (2 ^ a ||| 2 ^ b)))), (nI k)))) else fX2_enter_b131 N (nI (2 ^ a ||| 2 ^ b)) (iI x) (iI y) (iI d) x9_231 mx my md mt (nI k))) N 0 := by
    rw [fX2_enter.eq_1, m_commonDivisor hN (by omega) (by omega), bd_s, ← iI_nI, m_commonDivisor hN (by omega) (by omega), bd_s, hgcd]
    by_cases cg : g ≤ 1
    · rw [if_pos (by rw [show (1 : Int32) = nI 1 from rfl, nI_leI (by omega) (by omega)]; exact cg), fX2_enter_b25.eq_1, if_pos (by rw [show (1 : Int32) = nI 1 from rfl, nI_leI (by omega) (by omega)]; exact cg), fX2_enter_b41.eq_1, if_pos (by rw [show (1 : Int32) = nI 1 from rfl, nI_leI (by omega) (by omega)]; exact cg), hone w1 (by omega) cg, hone w2 (by omega) cg, hone w3 (by omega) cg]
    · rw [if_neg (by rw [show (1 : Int32) = nI 1 from rfl, nI_leI (by omega) (by omega)]; exact cg), nz_s _ hgnz, fX2_enter_b25.eq_1, if_neg (by rw [show (1 : Int32) = nI 1 from rfl, nI_leI (by omega) (by omega)]; exact cg), nz_s _ hgnz, fX2_enter_b41.eq_1, if_neg (by rw [show (1 : Int32) = nI 1 from rfl, nI_leI (by omega) (by omega)]; exact cg), nz_s _ hgnz, hdiv w1 (by omega), hdiv w2 (by omega), hdiv w3 (by omega)]
  rw [key]
  obtain ⟨p, p1, p2, p3, p4⟩ := c_search (N := N) h hR hP (by omega) b1 b2 b3 (fun (x9_231 : Int32) => if (nI k) ≤ x9_231 then fX2_enter_b131 N (nI (2 ^ a ||| 2 ^ b)) (iI x) (iI y) (iI d) x9_231 mx my md mt (nI k) else bd (fX2_order N mx my md x9_231 (iI x) (iI y) (iI d)) (fun u_233 => if u_233 = 0 then rd mt 36 x9_231 (fun v_236 => ck 36 x9_231 (some (mx, my, md, (upd mt (Int32.toNatClampNeg x9_231) (v_236 ||| (nI (2 ^ a ||| 2 ^ b)))), (nI k)))) else fX2_enter_b131 N (nI (2 ^ a ||| 2 ^ b)) (iI x) (iI y) (iI d) x9_231 mx my md mt (nI k))) k N 0 (by omega) (by omega) (fun i hi => absurd hi (Nat.not_lt_zero i))
  rw [show nI 0 = (0 : Int32) from rfl] at p4
  rw [p4]
  -- the sets of lines, when it is new
  have hnew : (∀ j, j < k → ¬ eq3 (X j) (Y j) (D j) x y d) → (∀ j, p ≤ j → j < k → lt3 x y d (X j) (Y j) (D j)) → ∃ k2 X2 Y2 D2 T2 x2 y2 d2 t2, k2 ≤ k + 1 ∧ RowQ (addQ Q a b) n A B C k2 X2 Y2 D2 ∧ TI (addQ Q a b) n A B C k2 X2 Y2 D2 T2 ∧ Rp k2 X2 Y2 D2 x2 y2 d2 ∧ Tp k2 T2 t2 ∧ fX2_enter_b131 N (nI (2 ^ a ||| 2 ^ b)) (iI x) (iI y) (iI d) (nI p) mx my md mt (nI k) = some (x2, y2, d2, t2, nI k2) := by
    intro hne hhi
    refine ⟨k + 1, insF p x X, insF p y Y, insF p d D, insF p (2 ^ a ||| 2 ^ b) T, upd (shA p k mx) p (iI x), upd (shA p k my) p (iI y), upd (shA p k md) p (iI d), upd (shA p k mt) p (nI (2 ^ a ||| 2 ^ b)), Nat.le_refl _, RowQ_ins h p1 hr hat p2 hhi, ?_, ?_, Tp_ins hTp p1, ?_⟩
    · have old : ∀ j, j < k → T j < 512 ∧ ∀ l, (T j).testBit l = true ↔ ∃ m, (addQ Q a b l m ∨ addQ Q a b m l) ∧ At n A B C l m (X j) (Y j) (D j) := by
        intro j hj
        refine ⟨(hT j hj).1, fun l => ?_⟩
        rw [(hT j hj).2 l]
        constructor
        · rintro ⟨m, q, z⟩
          exact ⟨m, q.imp Or.inl Or.inl, z⟩
        · rintro ⟨m, q, z⟩
          rcases q with (q | ⟨rfl, rfl⟩) | (q | ⟨rfl, rfl⟩)
          · exact ⟨m, Or.inl q, z⟩
          · exact absurd (at_eq3 z hat) (hne j hj)
          · exact ⟨m, Or.inr q, z⟩
          · exact absurd (at_eq3 (at_sym z) hat) (hne j hj)
      intro j hj
      rcases Nat.lt_trichotomy j p with c | c | c
      · rw [insF_lt c, insF_lt c, insF_lt c, insF_lt c]
        exact old j (by omega)
      · subst c
        rw [insF_eq, insF_eq, insF_eq, insF_eq]
        refine ⟨or_lt (pw_lt ha hn) (pw_lt hb hn), fun l => ?_⟩
        rw [bit2]
        constructor
        · rintro (rfl | rfl)
          · exact ⟨b, Or.inl (Or.inr ⟨rfl, rfl⟩), hat⟩
          · exact ⟨a, Or.inr (Or.inr ⟨rfl, rfl⟩), at_sym hat⟩
        · rintro ⟨m, q, z⟩
          rcases q with (q | ⟨rfl, rfl⟩) | (q | ⟨rfl, rfl⟩)
          · obtain ⟨i, hi, zi⟩ := h.2.2 l m q z.1 z.2.1 z.2.2.1
            exact absurd (at_eq3 zi z) (hne i hi)
          · exact Or.inl rfl
          · obtain ⟨i, hi, zi⟩ := h.2.2 m l q z.2.1 z.1 (at_sym z).2.2.1
            exact absurd (at_eq3 zi (at_sym z)) (hne i hi)
          · exact Or.inr rfl
      · rw [insF_gt c, insF_gt c, insF_gt c, insF_gt c]
        exact old (j - 1) (by omega)
    · intro j hj
      exact ⟨Rp_ins (fun i hi => (hP i hi).1) p1 j hj, Rp_ins (fun i hi => (hP i hi).2.1) p1 j hj, Rp_ins (fun i hi => (hP i hi).2.2) p1 j hj⟩
    · rw [fX2_enter_b131.eq_1, if_neg (by rw [show (36 : Int32) = nI 36 from rfl, nI_leI (by omega) (by omega)]; omega), c_makeWay _ _ _ _ hk p1 hN, bd_s, ck_36 (by omega), ck_36 (by omega), ck_36 (by omega), ck_36 (by omega), nI_clamp (by omega)]
  have hpl := RowQ_place h hr.1 p1 p2 p3
  by_cases cp : p = k
  · subst cp
    rw [if_pos (nI_le' (by omega) (Nat.le_refl p))]
    exact hnew (fun j hj e => lt3_irr (p2 j hj) e) (fun j h1 h2 => by omega)
  · have hpk : p < k := by omega
    obtain ⟨v1, v2, v3, v4⟩ := RowQ_bd h hR hpk
    have hs := ordv_sm v1 v2 v3 b1 b2 b3
    rw [if_neg (nI_nle' (by omega) hpk), c_order hP (by omega) hpk v1 v3 b1 b3, bd_s]
    by_cases c : ordv (X p) (Y p) (D p) x y d = 0
    · rw [if_pos (by rw [iI_eq0 hs]; exact c), rd_36 (by omega), ck_36 (by omega), nI_clamp (by omega), hTp p hpk, nI_or]
      have e3 := ordv_eq.mp c
      obtain ⟨f1, f2, f3⟩ := red_eq (h.1 p hpk).1 hr e3
      have hat' : At n A B C a b (X p) (Y p) (D p) := by rw [f1, f2, f3]; exact hat
      refine ⟨k, X, Y, D, (fun j => if j = p then T p ||| (2 ^ a ||| 2 ^ b) else T j), mx, my, md, _, by omega, RowQ_there h hpk hat', ?_, hP, ?_, rfl⟩
      · intro j hj
        obtain ⟨t1, t2⟩ := hT j hj
        dsimp only
        by_cases e : j = p
        · subst e
          rw [if_pos rfl]
          refine ⟨or_lt t1 (or_lt (pw_lt ha hn) (pw_lt hb hn)), fun l => ?_⟩
          rw [Nat.testBit_or, Bool.or_eq_true, t2 l, bit2]
          constructor
          · rintro (⟨m, q, z⟩ | rfl | rfl)
            · exact ⟨m, q.imp Or.inl Or.inl, z⟩
            · exact ⟨b, Or.inl (Or.inr ⟨rfl, rfl⟩), hat'⟩
            · exact ⟨a, Or.inr (Or.inr ⟨rfl, rfl⟩), at_sym hat'⟩
          · rintro ⟨m, q, z⟩
            rcases q with (q | ⟨rfl, rfl⟩) | (q | ⟨rfl, rfl⟩)
            · exact Or.inl ⟨m, Or.inl q, z⟩
            · exact Or.inr (Or.inl rfl)
            · exact Or.inl ⟨m, Or.inr q, z⟩
            · exact Or.inr (Or.inr rfl)
        · rw [if_neg e]
          refine ⟨t1, fun l => ?_⟩
          rw [t2 l]
          constructor
          · rintro ⟨m, q, z⟩
            exact ⟨m, q.imp Or.inl Or.inl, z⟩
          · rintro ⟨m, q, z⟩
            rcases q with (q | ⟨rfl, rfl⟩) | (q | ⟨rfl, rfl⟩)
            · exact ⟨m, Or.inl q, z⟩
            · exact absurd (at_eq3 z hat') (fun e2 => RowQ_ne h hj hpk e e2)
            · exact ⟨m, Or.inr q, z⟩
            · exact absurd (at_eq3 (at_sym z) hat') (fun e2 => RowQ_ne h hj hpk e e2)
      · intro j hj
        dsimp only
        by_cases e : j = p
        · subst e; rw [up_s, if_pos rfl]
        · rw [up_n e, if_neg e]; exact hTp j hj
    · rw [if_neg (by rw [iI_eq0 hs]; exact c)]
      have hgt : lt3 x y d (X p) (Y p) (D p) := by
        rcases lt3_tri (X p) (Y p) (D p) x y d with z | z | z
        · exact absurd z (p3 hpk)
        · exact absurd (ordv_eq.mpr z) c
        · exact z
      have hhi : ∀ j, p ≤ j → j < k → lt3 x y d (X j) (Y j) (D j) := by
        intro j h1 h2
        by_cases e : j = p
        · subst e; exact hgt
        · exact hpl j (by omega) h2
      refine hnew (fun j hj e => ?_) hhi
      by_cases z : j < p
      · exact lt3_irr (p2 j z) e
      · exact lt3_irr (hhi j (by omega) hj) ⟨e.1.symm, e.2.symm⟩
end CFM

