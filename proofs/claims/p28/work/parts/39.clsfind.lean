/-! ===== the class's find ===== -/
section CFD
abbrev MC : Type := Nat × (Nat → Int) × (Nat → Int) × (Nat → Int) × (Nat → Nat) × (Nat → Int32) × (Nat → Int32) × (Nat → Int32) × (Nat → Int32)
variable {n : Nat} {A B C : Nat → Int} {la lb lc : Nat → Int32} {N : Nat}
noncomputable def thrS (n : Nat) (A B C : Nat → Int) (x y d : Int) : Nat := bset (fun l => decide (ht A B C l x y d = 0)) n
noncomputable def abvS (n : Nat) (A B C : Nat → Int) (x y d : Int) : Nat := bset (fun l => decide (0 < ht A B C l x y d)) n
theorem thrS_lt (hn : n ≤ 9) (x y d : Int) : thrS n A B C x y d < 512 := lt512 (bset_lt _ _) hn
theorem abvS_lt (hn : n ≤ 9) (x y d : Int) : abvS n A B C x y d < 512 := lt512 (bset_lt _ _) hn
theorem thrS_t (x y d : Int) (l : Nat) : (thrS n A B C x y d).testBit l = true ↔ l < n ∧ ht A B C l x y d = 0 := by
  unfold thrS
  rw [bset_test, Bool.and_eq_true, decide_eq_true_eq, decide_eq_true_eq]
theorem abvS_t (x y d : Int) (l : Nat) : (abvS n A B C x y d).testBit l = true ↔ l < n ∧ 0 < ht A B C l x y d := by
  unfold abvS
  rw [bset_test, Bool.and_eq_true, decide_eq_true_eq, decide_eq_true_eq]
def QC (n i j a b : Nat) : Prop := a < b ∧ b < n ∧ (a < i ∨ (a = i ∧ b < j))
theorem TI_cong {Q Q' : Nat → Nat → Prop} {k : Nat} {X Y D : Nat → Int} {T : Nat → Nat} (h : TI Q n A B C k X Y D T) (e : ∀ a b, Q a b ↔ Q' a b) : TI Q' n A B C k X Y D T := by
  intro j hj
  refine ⟨(h j hj).1, fun l => ?_⟩
  rw [(h j hj).2 l]
  constructor
  · rintro ⟨m, q, z⟩
    exact ⟨m, q.imp (e _ _).mp (e _ _).mp, z⟩
  · rintro ⟨m, q, z⟩
    exact ⟨m, q.imp (e _ _).mpr (e _ _).mpr, z⟩
theorem TI_par {Q : Nat → Nat → Prop} {k : Nat} {X Y D : Nat → Int} {T : Nat → Nat} (h : TI Q n A B C k X Y D T) {a b : Nat} (h0 : cr A B a b = 0) : TI (addQ Q a b) n A B C k X Y D T := by
  intro j hj
  refine ⟨(h j hj).1, fun l => ?_⟩
  rw [(h j hj).2 l]
  constructor
  · rintro ⟨m, q, z⟩
    exact ⟨m, q.imp Or.inl Or.inl, z⟩
  · rintro ⟨m, q, z⟩
    rcases q with (q | ⟨rfl, rfl⟩) | (q | ⟨rfl, rfl⟩)
    · exact ⟨m, Or.inl q, z⟩
    · exact absurd h0 z.2.2.1
    · exact ⟨m, Or.inr q, z⟩
    · exact absurd h0 (at_sym z).2.2.1
def MCI (Q : Nat → Nat → Prop) (n : Nat) (A B C : Nat → Int) (s : MC) : Prop := RowQ Q n A B C s.1 s.2.1 s.2.2.1 s.2.2.2.1 ∧ TI Q n A B C s.1 s.2.1 s.2.2.1 s.2.2.2.1 s.2.2.2.2.1 ∧ Rp s.1 s.2.1 s.2.2.1 s.2.2.2.1 s.2.2.2.2.2.1 s.2.2.2.2.2.2.1 s.2.2.2.2.2.2.2.1 ∧ Tp s.1 s.2.2.2.2.1 s.2.2.2.2.2.2.2.2
abbrev FR6 : Type := (Nat → Int32) × (Nat → Int32) × (Nat → Int32) × (Nat → Int32) × (Nat → Int32) × Int32
theorem sgn1_i (z : Int) (h : sm z) : sgn1 z = if 0 ≤ z then 1 else -1 := by unfold sgn1; (repeat' split) <;> omega
theorem c_find_step (hD : LD n A B C la lb lc) (hR : LR n A B C) (hN : 70000 ≤ N) {i j : Nat} (hij : i < j) (hj : j < n) (K : (Nat → Int32) → (Nat → Int32) → (Nat → Int32) → (Nat → Int32) → Int32 → Option FR6) (f : Nat) (s : MC)
    (h : MCI (QC n i j) n A B C s) (hk : s.1 + (n - j) + tri (n - 1 - i) ≤ tri n) :
    ∃ s' : MC, (MCI (QC n i (j + 1)) n A B C s' ∧ s'.1 + (n - (j + 1)) + tri (n - 1 - i) ≤ tri n) ∧
      fX2_find_b19 N la lb lc (nI n) (nI i) K (f + 1) (nI j) s.2.2.2.2.2.1 s.2.2.2.2.2.2.1 s.2.2.2.2.2.2.2.1 s.2.2.2.2.2.2.2.2 (nI s.1) = fX2_find_b19 N la lb lc (nI n) (nI i) K f (nI (j + 1)) s'.2.2.2.2.2.1 s'.2.2.2.2.2.2.1 s'.2.2.2.2.2.2.2.1 s'.2.2.2.2.2.2.2.2 (nI s'.1) := by
  obtain ⟨k, X, Y, D, T, mx, my, md, mt⟩ := s
  obtain ⟨h1, h2, h3, h4⟩ := h
  dsimp only at h1 h2 h3 h4 hk ⊢
  have hn := hR.1
  have htn := tri_le n (by omega)
  obtain ⟨c1, c2, c3⟩ := cr_bd hR (show i < n by omega) hj
  have hq : ∀ a b, addQ (QC n i j) i j a b ↔ QC n i (j + 1) a b := by
    intro a b
    unfold addQ QC
    omega
  rw [fX2_find_b19.eq_2, fX1_count.eq_1, bd_s, if_neg (nI_nle' (by omega) hj), m_crossD hD hn N (by omega) hj, bd_s]
  by_cases c0 : cr A B i j = 0
  · rw [if_pos (by rw [iI_eq0 (sm_of c1)]; exact c0), nI_1]
    exact ⟨(k, X, Y, D, T, mx, my, md, mt), ⟨⟨RowQ_cong (RowQ_par h1 c0) hq, TI_cong (TI_par h2 c0) hq, h3, h4⟩, by dsimp only; omega⟩, rfl⟩
  · obtain ⟨k2, X2, Y2, D2, T2, x2, y2, d2, t2, q1, q2, q3, q4, q5, q6⟩ := c_enter (N := N) h1 h2 hR h3 h4 (by omega) hN (show i < n by omega) hj c0
    refine ⟨(k2, X2, Y2, D2, T2, x2, y2, d2, t2), ⟨⟨RowQ_cong q2 hq, TI_cong q3 hq, q4, q5⟩, by dsimp only; omega⟩, ?_⟩
    have key : ∀ (s0 : Int32), s0 = iI (sgn1 (cr A B i j)) → fX2_find_b50 N la lb lc (nI i) (iI (cr A B i j)) (nI j) mx my md mt (nI k) s0 (fun (x3_266 : Int32) (m_x_267 m_y_268 m_d_269 m_t_270 : Nat → Int32) (m_n_271 : Int32) => fX2_find_b19 N la lb lc (nI n) (nI i) K f x3_266 m_x_267 m_y_268 m_d_269 m_t_270 m_n_271) = fX2_find_b19 N la lb lc (nI n) (nI i) K f (nI (j + 1)) x2 y2 d2 t2 (nI k2) := by
      intro s0 e
      rw [e, fX2_find_b50.eq_1, m_bit N (by omega), bd_s, m_bit N (by omega), bd_s, m_crossX hD hn N (by omega) hj, bd_s, m_crossY hD hn N (by omega) hj, bd_s, iI_mul, iI_mul, iI_mul, nI_or, q6, bd_s, nI_1]
    rw [if_neg (by rw [iI_eq0 (sm_of c1)]; exact c0)]
    by_cases cs : 0 ≤ cr A B i j
    · rw [if_pos (by rw [iI_ge0 (sm_of c1)]; exact cs)]
      exact key 1 (by rw [sgn1_i _ (sm_of c1), if_pos cs]; rfl)
    · rw [if_neg (by rw [iI_ge0 (sm_of c1)]; exact cs)]
      exact key (-1) (by rw [sgn1_i _ (sm_of c1), if_neg cs]; rfl)
theorem TI_thr {Q : Nat → Nat → Prop} {k : Nat} {X Y D : Nat → Int} {T : Nat → Nat} (h : TI Q n A B C k X Y D T) (hM : MSp n A B C k X Y D) (hU : LU n A B C) (e : ∀ a b, a < n → b < n → a ≠ b → Q a b ∨ Q b a) : ∀ j, j < k → T j = thrS n A B C (X j) (Y j) (D j) := by
  intro j hj
  apply Nat.eq_of_testBit_eq
  intro l
  rw [Bool.eq_iff_iff, (h j hj).2 l, thrS_t]
  constructor
  · rintro ⟨m, -, z⟩
    exact ⟨z.1, z.2.2.2.1⟩
  · rintro ⟨hl, h0⟩
    obtain ⟨hr, a, b, -, hat⟩ := hM.1 j hj
    by_cases c : l = a
    · subst c
      have hlb : l ≠ b := by
        intro z
        subst z
        exact hat.2.2.1 (cr_self A B l)
      exact ⟨b, e l b hl hat.2.1 hlb, hat⟩
    · exact ⟨a, e l a hl hat.1 c, hl, hat.1, (two_on hU hl hat.1 c hr.1 h0 hat.2.2.2.1).1, h0, hat.2.2.2.1⟩
theorem tri_pred {m : Nat} (h : 0 < m) : tri m = tri (m - 1) + (m - 1) := by
  obtain ⟨m', rfl⟩ : ∃ m', m = m' + 1 := ⟨m - 1, by omega⟩
  rfl
theorem c_find_rows (hD : LD n A B C la lb lc) (hR : LR n A B C) (hU : LU n A B C) (hN : 70000 ≤ N) (K : (Nat → Int32) → (Nat → Int32) → (Nat → Int32) → (Nat → Int32) → Int32 → Option FR6) (x0 y0 d0 t0 : Nat → Int32) :
    ∃ k X Y D mx my md mt, k ≤ 36 ∧ MSp n A B C k X Y D ∧ Rp k X Y D mx my md ∧ Tp k (fun j => thrS n A B C (X j) (Y j) (D j)) mt ∧ fX2_find_b7 N la lb lc (nI n) K N 0 x0 y0 d0 t0 0 = K mx my md mt (nI k) := by
  have hn := hR.1
  obtain ⟨s, ⟨⟨p1, p2, p3, p4⟩, p5⟩, e⟩ := loop_ex (fun f i (s : MC) => fX2_find_b7 N la lb lc (nI n) K f (nI i) s.2.2.2.2.2.1 s.2.2.2.2.2.2.1 s.2.2.2.2.2.2.2.1 s.2.2.2.2.2.2.2.2 (nI s.1)) (fun s => K s.2.2.2.2.2.1 s.2.2.2.2.2.2.1 s.2.2.2.2.2.2.2.1 s.2.2.2.2.2.2.2.2 (nI s.1)) n
    (fun i s => MCI (QC n i 0) n A B C s ∧ s.1 + tri (n - i) ≤ tri n)
    (fun f s hp => by
      show fX2_find_b7 N la lb lc (nI n) K (f + 1) (nI n) s.2.2.2.2.2.1 s.2.2.2.2.2.2.1 s.2.2.2.2.2.2.2.1 s.2.2.2.2.2.2.2.2 (nI s.1) = _
      rw [fX2_find_b7.eq_2, fX1_count.eq_1, bd_s, if_pos (nI_le' (by omega) (Nat.le_refl n))])
    (fun f i s hi hp => by
      rw [fX2_find_b7.eq_2, fX1_count.eq_1, bd_s, if_neg (nI_nle' (by omega) hi), nI_1]
      have ht1 := tri_pred (m := n - i) (by omega)
      rw [show n - i - 1 = n - 1 - i by omega] at ht1
      have hp2 := hp.2
      obtain ⟨s', ⟨q1, q2⟩, e⟩ := loop_ex (fun f' j (s : MC) => fX2_find_b19 N la lb lc (nI n) (nI i) (fun (m_x_281 m_y_282 m_d_283 m_t_284 : Nat → Int32) (m_n_285 : Int32) => fX2_find_b7 N la lb lc (nI n) K f (nI (i + 1)) m_x_281 m_y_282 m_d_283 m_t_284 m_n_285) f' (nI j) s.2.2.2.2.2.1 s.2.2.2.2.2.2.1 s.2.2.2.2.2.2.2.1 s.2.2.2.2.2.2.2.2 (nI s.1)) (fun s => fX2_find_b7 N la lb lc (nI n) K f (nI (i + 1)) s.2.2.2.2.2.1 s.2.2.2.2.2.2.1 s.2.2.2.2.2.2.2.1 s.2.2.2.2.2.2.2.2 (nI s.1)) n
        (fun j s => i < j ∧ MCI (QC n i j) n A B C s ∧ s.1 + (n - j) + tri (n - 1 - i) ≤ tri n)
        (fun f' s hp => by
          rw [fX2_find_b19.eq_2, fX1_count.eq_1, bd_s, if_pos (nI_le' (by omega) (Nat.le_refl n))])
        (fun f' j s hj hp => by
          obtain ⟨s', ⟨z1, z2⟩, z3⟩ := c_find_step hD hR hN hp.1 hj (fun (m_x_281 m_y_282 m_d_283 m_t_284 : Nat → Int32) (m_n_285 : Int32) => fX2_find_b7 N la lb lc (nI n) K f (nI (i + 1)) m_x_281 m_y_282 m_d_283 m_t_284 m_n_285) f' s hp.2.1 hp.2.2
          have := hp.1
          exact ⟨s', ⟨by omega, z1, z2⟩, z3⟩)
        (n - (i + 1)) N (i + 1) s (by omega) (by omega) ⟨by omega, ⟨RowQ_cong hp.1.1 (fun a b => by unfold QC; omega), TI_cong hp.1.2.1 (fun a b => by unfold QC; omega), hp.1.2.2⟩, by omega⟩
      refine ⟨s', ⟨⟨RowQ_cong q2.1.1 (fun a b => by unfold QC; omega), TI_cong q2.1.2.1 (fun a b => by unfold QC; omega), q2.1.2.2⟩, ?_⟩, e⟩
      have := q2.2
      rw [show n - (i + 1) = n - 1 - i by omega]
      omega)
    n N 0 (0, (fun _ => 0), (fun _ => 0), (fun _ => 0), (fun _ => 0), x0, y0, d0, t0) (by omega) (by omega) ⟨⟨RowQ_0 _ _ _ (fun a b _ _ h => by unfold QC at h; omega), fun j hj => absurd hj (Nat.not_lt_zero j), fun j hj => absurd hj (Nat.not_lt_zero j), fun j hj => absurd hj (Nat.not_lt_zero j)⟩, by simp⟩
  have hall : ∀ a b, a < n → b < n → a ≠ b → QC n n 0 a b ∨ QC n n 0 b a := fun a b h1 h2 h3 => by unfold QC; omega
  have hM := RowQ_all p1 hall
  have hTh := TI_thr p2 hM hU hall
  have htn := tri_le n (by omega)
  refine ⟨s.1, s.2.1, s.2.2.1, s.2.2.2.1, s.2.2.2.2.2.1, s.2.2.2.2.2.2.1, s.2.2.2.2.2.2.2.1, s.2.2.2.2.2.2.2.2, by omega, hM, p3, fun j hj => ?_, e⟩
  rw [p4 j hj, hTh j hj]
theorem c_find (hD : LD n A B C la lb lc) (hR : LR n A B C) (hU : LU n A B C) (hN : 70000 ≤ N) (x0 y0 d0 t0 v0 : Nat → Int32) (n0 : Int32) :
    ∃ k X Y D mx my md mt mv, k ≤ 36 ∧ MSp n A B C k X Y D ∧ Rp k X Y D mx my md ∧ Tp k (fun j => thrS n A B C (X j) (Y j) (D j)) mt ∧ Tp k (fun j => abvS n A B C (X j) (Y j) (D j)) mv ∧ fX2_find N la lb lc (nI n) x0 y0 d0 t0 v0 n0 = some (mx, my, md, mt, mv, nI k) := by
  have hn := hR.1
  rw [fX2_find.eq_1]
  obtain ⟨k, X, Y, D, mx, my, md, mt, h1, h2, h3, h4, h5⟩ := c_find_rows hD hR hU hN (fun (m_x_292 m_y_293 m_d_294 m_t_295 : Nat → Int32) (m_n_296 : Int32) => fX2_find_b106 N la lb lc (nI n) m_x_292 m_y_293 m_d_294 m_t_295 m_n_296 N 0 v0) x0 y0 d0 t0
  rw [h5]
  obtain ⟨mv, p1, e⟩ := loop_ex (fun f j (mv : Nat → Int32) => fX2_find_b106 N la lb lc (nI n) mx my md mt (nI k) f (nI j) mv) (fun mv => some (mx, my, md, mt, mv, nI k)) k
    (fun j mv => Tp j (fun j => abvS n A B C (X j) (Y j) (D j)) mv)
    (fun f mv hp => by
      rw [fX2_find_b106.eq_2, if_pos (nI_le' (by omega) (Nat.le_refl k))])
    (fun f j mv hj hp => by
      obtain ⟨g1, g2, g3⟩ := h3 j hj
      obtain ⟨b1, b2, b3, b4⟩ := RowQ_bd h2 hR hj
      refine ⟨upd mv j (nI (abvS n A B C (X j) (Y j) (D j))), ?_, ?_⟩
      · intro i hi
        by_cases e : i = j
        · subst e; rw [up_s]
        · rw [up_n e]; exact hp i (by omega)
      · rw [fX2_find_b106.eq_2, if_neg (nI_nle' (by omega) hj), rd_36 (by omega), rd_36 (by omega), rd_36 (by omega), g1, g2, g3, m_setBelow hD hR hN (by omega) (by omega) (by omega), bd_s, ck_36 (by omega), nI_1, nI_clamp (by omega)]
        rfl)
    k N 0 v0 (by omega) (by omega) (fun j hj => absurd hj (Nat.not_lt_zero j))
  exact ⟨k, X, Y, D, mx, my, md, mt, mv, h1, h2, h3, h4, p1, e⟩
end CFD

