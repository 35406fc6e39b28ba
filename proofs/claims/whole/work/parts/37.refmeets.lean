/-! ===== the reference finds the MEETS ===== -/
section RFM
def tri : Nat → Nat
  | 0 => 0
  | i + 1 => tri i + i
theorem tri_lt : ∀ i, i < 9 → ∀ j, j < i → tri i + j < 36 := by decide
theorem tri_le : ∀ i, i < 10 → tri i ≤ 36 := by decide
def QR (i j a b : Nat) : Prop := b < a ∧ (a < i ∨ (a = i ∧ b < j))
theorem RowQ_cong {Q Q' : Nat → Nat → Prop} {n : Nat} {A B C : Nat → Int} {k : Nat} {X Y D : Nat → Int} (h : RowQ Q n A B C k X Y D) (e : ∀ a b, Q a b ↔ Q' a b) : RowQ Q' n A B C k X Y D := by
  refine ⟨fun j hj => ?_, h.2.1, fun a b hq => h.2.2 a b ((e a b).mpr hq)⟩
  obtain ⟨hr, a, b, hq, hat⟩ := h.1 j hj
  exact ⟨hr, a, b, (e a b).mp hq, hat⟩
theorem RowQ_0 {Q : Nat → Nat → Prop} {n : Nat} {A B C : Nat → Int} (X Y D : Nat → Int) (h : ∀ a b, a < n → b < n → ¬ Q a b) : RowQ Q n A B C 0 X Y D := ⟨fun j hj => absurd hj (Nat.not_lt_zero j), fun i j _ hj => absurd hj (Nat.not_lt_zero j), fun a b hq h1 h2 _ => absurd hq (h a b h1 h2)⟩
abbrev MS3 : Type := Nat × (Nat → Int) × (Nat → Int) × (Nat → Int) × (Nat → Int32) × (Nat → Int32) × (Nat → Int32)
variable {n : Nat} {A B C : Nat → Int} {la lb lc : Nat → Int32} {N : Nat}
theorem nat_mul_sgn {g : Nat} {z : Int} (h : z ≠ 0) : (g : Int) * sgn1 z ≠ 0 ↔ g ≠ 0 := by
  unfold sgn1
  split <;> omega
theorem div_ex {u v s : Int} {g : Nat} (hg : 0 < g) (hg2 : g ≤ 162) (hs : s = 1 ∨ s = -1) (hu : u = (g : Int) * (s * v)) (hb : u.natAbs ≤ 162) : iI u / iI ((g : Int) * s) = iI v := by
  have hsm : sm ((g : Int) * s) := by rcases hs with z | z <;> rw [z] <;> unfold sm <;> omega
  rw [iI_div' (by omega) hsm]
  congr 1
  have hne : (g : Int) * s ≠ 0 := by rcases hs with z | z <;> rw [z] <;> omega
  rw [hu, ← Int.mul_assoc]
  exact Int.mul_tdiv_cancel_left _ hne
theorem sgn1_or (z : Int) : sgn1 z = 1 ∨ sgn1 z = -1 := by unfold sgn1; split <;> simp
theorem r_fm_step (hD : LD n A B C la lb lc) (hR : LR n A B C) (hN : 70000 ≤ N) {i j : Nat} (hi : i < n) (hj : j < i) (K : Int32 → (Nat → Int32) → (Nat → Int32) → (Nat → Int32) → Option (Int32 × (Nat → Int32) × (Nat → Int32) × (Nat → Int32))) (f : Nat) (s : MS3)
    (h : RowQ (QR i j) n A B C s.1 s.2.1 s.2.2.1 s.2.2.2.1) (hP : Rp s.1 s.2.1 s.2.2.1 s.2.2.2.1 s.2.2.2.2.1 s.2.2.2.2.2.1 s.2.2.2.2.2.2) (hk : s.1 ≤ tri i + j) :
    ∃ s' : MS3, (RowQ (QR i (j + 1)) n A B C s'.1 s'.2.1 s'.2.2.1 s'.2.2.2.1 ∧ Rp s'.1 s'.2.1 s'.2.2.1 s'.2.2.2.1 s'.2.2.2.2.1 s'.2.2.2.2.2.1 s'.2.2.2.2.2.2 ∧ s'.1 ≤ tri i + (j + 1)) ∧
      fX5_findMeets_b17 N la lb lc (nI i) K (f + 1) (nI j) (nI s.1) s.2.2.2.2.1 s.2.2.2.2.2.1 s.2.2.2.2.2.2 = fX5_findMeets_b17 N la lb lc (nI i) K f (nI (j + 1)) (nI s'.1) s'.2.2.2.2.1 s'.2.2.2.2.2.1 s'.2.2.2.2.2.2 := by
  obtain ⟨k, X, Y, D, x', y', d'⟩ := s
  dsimp only at h hP hk ⊢
  have hn := hR.1
  obtain ⟨a1, a2, a3⟩ := hD i hi
  obtain ⟨b1, b2, b3⟩ := hD j (by omega)
  obtain ⟨c1, c2, c3⟩ := cr_bd hR hi (show j < n by omega)
  have hq : ∀ a b, addQ (QR i j) i j a b ↔ QR i (j + 1) a b := by
    intro a b
    unfold addQ QR
    omega
  rw [fX5_findMeets_b17.eq_2, if_neg (nI_nle' (by omega) hj), rd_9 (by omega), rd_9 (by omega), rd_9 (by omega), rd_9 (by omega), a1, a2, b1, b2, iI_mul, iI_mul, iI_sub, nm_s, show A i * B j - A j * B i = cr A B i j from rfl]
  by_cases c0 : cr A B i j = 0
  · rw [if_pos (by rw [iI_eq0 (sm_of c1)]; exact c0), nI_1]
    exact ⟨(k, X, Y, D, x', y', d'), ⟨RowQ_cong (RowQ_par h c0) hq, hP, by dsimp only; omega⟩, rfl⟩
  · obtain ⟨x, y, d, g, hg, hg0, hg162, hr, hat, e1, e2, e3, -, -, -⟩ := red_ex hR hi (show j < n by omega) c0
    have htl := tri_lt i (by omega) j hj
    obtain ⟨k2, X2, Y2, D2, x2, y2, d2, q1, q2, q3, q4⟩ := r_keep (N := N) h hR hP (by omega) hN hr hat
    have hgc : Int.gcd (cr C B i j) (cr A C i j) ≤ 162 := by
      by_cases z : cr C B i j = 0
      · rw [z, Int.gcd_zero_left]; exact c3
      · exact Nat.le_trans (Nat.gcd_le_left _ (Int.natAbs_pos.mpr z)) c2
    have hso := sgn1_or (cr A B i j)
    have hnz : ¬ iI ((g : Int) * sgn1 (cr A B i j)) = 0 := by
      rw [iI_eq0 (by rcases hso with z | z <;> rw [z] <;> unfold sm <;> omega)]
      rcases hso with z | z <;> rw [z] <;> omega
    rw [if_neg (by rw [iI_eq0 (sm_of c1)]; exact c0), rd_9 (by omega), rd_9 (by omega), rd_9 (by omega), rd_9 (by omega), a3, b2, b3, a2, iI_mul, iI_mul, iI_sub, nm_s, rd_9 (by omega), rd_9 (by omega), rd_9 (by omega), rd_9 (by omega), a1, b3, b1, a3, iI_mul, iI_mul, iI_sub, nm_s, show C i * B j - C j * B i = cr C B i j from rfl, show A i * C j - A j * C i = cr A C i j from rfl, m_common hN (by omega) (by omega), bd_s, ← iI_nI, m_common hN (by omega) (by omega), bd_s, r_sign N (sm_of c1), bd_s, sgn1_sg c0, ← iI_nI (Int.gcd _ _), iI_mul, ← hg, nz_s _ hnz, nz_s _ hnz, nz_s _ hnz, div_ex hg0 hg162 hso e1 c2, div_ex hg0 hg162 hso e2 c3, div_ex hg0 hg162 hso e3 c1, q4, bd_s, nI_1]
    exact ⟨(k2, X2, Y2, D2, x2, y2, d2), ⟨RowQ_cong q2 hq, q3, by dsimp only; omega⟩, rfl⟩
/-- all crossings -/
abbrev MSp (n : Nat) (A B C : Nat → Int) (k : Nat) (X Y D : Nat → Int) : Prop := RowQ (fun _ _ => True) n A B C k X Y D
theorem cr_self (A B : Nat → Int) (i : Nat) : cr A B i i = 0 := by unfold cr; omega
theorem RowQ_all {Q : Nat → Nat → Prop} {n : Nat} {A B C : Nat → Int} {k : Nat} {X Y D : Nat → Int} (h : RowQ Q n A B C k X Y D) (e : ∀ a b, a < n → b < n → a ≠ b → Q a b ∨ Q b a) : MSp n A B C k X Y D := by
  refine ⟨fun j hj => ?_, h.2.1, fun a b _ h1 h2 h3 => ?_⟩
  · obtain ⟨hr, a, b, hq, hat⟩ := h.1 j hj
    exact ⟨hr, a, b, trivial, hat⟩
  · by_cases c : a = b
    · subst c; exact absurd (cr_self A B a) h3
    · rcases e a b h1 h2 c with q | q
      · exact h.2.2 a b q h1 h2 h3
      · obtain ⟨j, hj, hat⟩ := h.2.2 b a q h2 h1 (by
          intro z
          apply h3
          unfold cr at z ⊢
          have := Int.mul_comm (A a) (B b)
          have := Int.mul_comm (A b) (B a)
          omega)
        exact ⟨j, hj, at_sym hat⟩
theorem r_findMeets' (hD : LD n A B C la lb lc) (hR : LR n A B C) (hN : 70000 ≤ N) (k0 : Int32) (x0 y0 d0 : Nat → Int32) :
    ∃ k X Y D x' y' d', k ≤ 36 ∧ MSp n A B C k X Y D ∧ Rp k X Y D x' y' d' ∧ fX5_findMeets N (nI n) la lb lc k0 x0 y0 d0 = some (nI k, x', y', d') := by
  have hn := hR.1
  rw [fX5_findMeets.eq_1]
  obtain ⟨s, ⟨p1, p2, p3⟩, e⟩ := loop_ex (fun f i (s : MS3) => fX5_findMeets_b7 N (nI n) la lb lc f (nI i) (nI s.1) s.2.2.2.2.1 s.2.2.2.2.2.1 s.2.2.2.2.2.2) (fun s => some (nI s.1, s.2.2.2.2.1, s.2.2.2.2.2.1, s.2.2.2.2.2.2)) n
    (fun i s => RowQ (QR i 0) n A B C s.1 s.2.1 s.2.2.1 s.2.2.2.1 ∧ Rp s.1 s.2.1 s.2.2.1 s.2.2.2.1 s.2.2.2.2.1 s.2.2.2.2.2.1 s.2.2.2.2.2.2 ∧ s.1 ≤ tri i)
    (fun f s hp => by
      show fX5_findMeets_b7 N (nI n) la lb lc (f + 1) (nI n) (nI s.1) s.2.2.2.2.1 s.2.2.2.2.2.1 s.2.2.2.2.2.2 = _
      rw [fX5_findMeets_b7.eq_2, if_pos (nI_le' (by omega) (Nat.le_refl n))])
    (fun f i s hi hp => by
      rw [fX5_findMeets_b7.eq_2, if_neg (nI_nle' (by omega) hi)]
      obtain ⟨s', ⟨q1, q2, q3⟩, e⟩ := loop_ex (fun f' j (s : MS3) => fX5_findMeets_b17 N la lb lc (nI i) (fun (d_k_659 : Int32) (d_x_660 d_y_661 d_d_662 : Nat → Int32) => fX5_findMeets_b7 N (nI n) la lb lc f (nI i + 1) d_k_659 d_x_660 d_y_661 d_d_662) f' (nI j) (nI s.1) s.2.2.2.2.1 s.2.2.2.2.2.1 s.2.2.2.2.2.2) (fun s => fX5_findMeets_b7 N (nI n) la lb lc f (nI i + 1) (nI s.1) s.2.2.2.2.1 s.2.2.2.2.2.1 s.2.2.2.2.2.2) i
        (fun j s => RowQ (QR i j) n A B C s.1 s.2.1 s.2.2.1 s.2.2.2.1 ∧ Rp s.1 s.2.1 s.2.2.1 s.2.2.2.1 s.2.2.2.2.1 s.2.2.2.2.2.1 s.2.2.2.2.2.2 ∧ s.1 ≤ tri i + j)
        (fun f' s hp => by
          rw [fX5_findMeets_b17.eq_2, if_pos (nI_le' (by omega) (Nat.le_refl i))])
        (fun f' j s hj hp => r_fm_step hD hR hN hi hj _ f' s hp.1 hp.2.1 hp.2.2)
        i N 0 s (by omega) (by omega) ⟨hp.1, hp.2.1, hp.2.2⟩
      refine ⟨s', ⟨RowQ_cong q1 (fun a b => by unfold QR; omega), q2, q3⟩, ?_⟩
      rw [← nI_1]
      exact e)
    n N 0 (0, (fun _ => 0), (fun _ => 0), (fun _ => 0), x0, y0, d0) (by omega) (by omega) ⟨RowQ_0 _ _ _ (fun a b _ _ h => by unfold QR at h; omega), fun j hj => absurd hj (Nat.not_lt_zero j), Nat.zero_le _⟩
  refine ⟨s.1, s.2.1, s.2.2.1, s.2.2.2.1, s.2.2.2.2.1, s.2.2.2.2.2.1, s.2.2.2.2.2.2, Nat.le_trans p3 (tri_le n (by omega)), RowQ_all p1 (fun a b h1 h2 h3 => by unfold QR; omega), p2, e⟩
/-- .. and so it is the row -/
theorem r_findMeets (hD : LD n A B C la lb lc) (hR : LR n A B C) (hN : 70000 ≤ N) {k : Nat} {X Y D : Nat → Int} (hM : MSp n A B C k X Y D) (k0 : Int32) (x0 y0 d0 : Nat → Int32) :
    ∃ x' y' d', Rp k X Y D x' y' d' ∧ fX5_findMeets N (nI n) la lb lc k0 x0 y0 d0 = some (nI k, x', y', d') := by
  obtain ⟨k', X', Y', D', x', y', d', h1, h2, h3, h4⟩ := r_findMeets' hD hR hN k0 x0 y0 d0
  obtain ⟨e1, e2⟩ := RowQ_uniq hM h2
  subst e1
  refine ⟨x', y', d', fun j hj => ?_, h4⟩
  obtain ⟨f1, f2, f3⟩ := e2 j hj
  rw [f1, f2, f3]
  exact h3 j hj
end RFM
