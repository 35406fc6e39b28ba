/-! ===== the reference finds the ROOMS ===== -/
section RRM
variable {n : Nat} {A B C : Nat → Int} {la lb lc : Nat → Int32} {N : Nat} {K : Nat} {X Y D : Nat → Int} {x' y' d' : Nat → Int32}
abbrev FR5 : Type := Int32 × (Nat → Int32) × (Nat → Int32) × (Nat → Int32) × (Nat → Int32)
def Mr (M : Nat → Prop) (r : Nat → Int32) : Prop := ∀ s, s < 512 → (M s → r s = 1) ∧ (¬ M s → r s = 0)
theorem Mr_cong {M M' : Nat → Prop} {rn : Nat → Int32} (h : Mr M rn) (e : ∀ s, M s ↔ M' s) : Mr M' rn := by
  intro s hs
  obtain ⟨h1, h2⟩ := h s hs
  exact ⟨fun z => h1 ((e s).mpr z), fun z => h2 (fun w => z ((e s).mp w))⟩
theorem nar1 : vp_nar .boolean 1 = 1 := by decide
theorem nar0 : vp_nar .boolean 0 = 0 := by decide
theorem Mr_upd {M : Nat → Prop} {rn : Nat → Int32} (h : Mr M rn) (t : Nat) : Mr (fun s => M s ∨ s = t) (upd rn t 1) := by
  intro s hs
  by_cases e : s = t
  · subst e
    rw [up_s]
    exact ⟨fun _ => rfl, fun z => absurd (Or.inr rfl) z⟩
  · rw [up_n e]
    obtain ⟨h1, h2⟩ := h s hs
    exact ⟨fun z => h1 (z.resolve_right e), fun z => h2 (fun w => z (Or.inl w))⟩
theorem r_side (hD : LD n A B C la lb lc) (hR : LR n A B C) (hM : MSp n A B C K X Y D) (hP : Rp K X Y D x' y' d') (hK : K ≤ 36) (N : Nat) {k i : Nat} (hk : k < n) (hi : i < K) : fX5_side N la lb lc x' y' d' (nI k) (nI i) = some (iI (sg (ht A B C k (X i) (Y i) (D i)))) := by
  have hn := hR.1
  obtain ⟨a1, a2, a3⟩ := hD k hk
  obtain ⟨g1, g2, g3⟩ := hP i hi
  obtain ⟨b1, b2, b3, b4⟩ := RowQ_bd hM hR hi
  have hs := ht_sm (x := X i) (y := Y i) (d := D i) hR hk (by omega) (by omega) (by omega)
  rw [fX5_side.eq_1, rd_9 (by omega), rd_36 (by omega), rd_9 (by omega), rd_36 (by omega), rd_9 (by omega), rd_36 (by omega), a1, a2, a3, g1, g2, g3, iI_mul, iI_mul, iI_mul, iI_add, iI_sub]
  rw [show A k * X i + B k * Y i - C k * D i = ht A B C k (X i) (Y i) (D i) from rfl, r_sign N hs, bd_s]
/-- on which side one is, behind a MEET -/
def alg (A B C : Nat → Int) (x y d : Int) (by_ : Nat) (w : Int) (k : Nat) : Int := if ht A B C k x y d = 0 then w * sg (B k * A by_ - A k * B by_) else sg (ht A B C k x y d)
noncomputable def alS (n : Nat) (A B C : Nat → Int) (x y d : Int) (by_ : Nat) (w : Int) : Nat := bset (fun k => decide (k ≠ by_ ∧ 0 < alg A B C x y d by_ w k)) n
theorem alS_lt (hn : n ≤ 9) (x y d : Int) (by_ : Nat) (w : Int) : alS n A B C x y d by_ w < 512 := lt512 (bset_lt _ _) hn
theorem alS_t (x y d : Int) (by_ : Nat) (w : Int) (k : Nat) : (alS n A B C x y d by_ w).testBit k = true ↔ k < n ∧ k ≠ by_ ∧ 0 < alg A B C x y d by_ w k := by
  unfold alS
  rw [bset_test, Bool.and_eq_true, decide_eq_true_eq, decide_eq_true_eq]
theorem r_along (hD : LD n A B C la lb lc) (hR : LR n A B C) (hM : MSp n A B C K X Y D) (hP : Rp K X Y D x' y' d') (hK : K ≤ 36) (N : Nat) {k i b : Nat} (hk : k < n) (hb : b < n) (hi : i < K) {w : Int} : fX5_along N la lb lc x' y' d' (nI k) (nI i) (nI b) (iI w) = some (iI (alg A B C (X i) (Y i) (D i) b w k)) := by
  have hn := hR.1
  obtain ⟨a1, a2, a3⟩ := hD k hk
  obtain ⟨a4, a5, a6⟩ := hD b hb
  obtain ⟨r1, r2, r3, r4⟩ := hR.2 k hk
  obtain ⟨q1, q2, q3, q4⟩ := hR.2 b hb
  have m1 := mb r2 q1; have m2 := mb r1 q2
  rw [fX5_along.eq_1, r_side hD hR hM hP hK N hk hi, bd_s]
  unfold alg
  by_cases c : ht A B C k (X i) (Y i) (D i) = 0
  · rw [if_pos (by rw [iI_eq0 (sm_sg _), sg_0]; exact c), if_pos c, rd_9 (by omega), rd_9 (by omega), rd_9 (by omega), rd_9 (by omega), a1, a2, a4, a5, iI_mul, iI_mul, iI_sub, r_sign N (by unfold sm; omega), bd_s, iI_mul]
  · rw [if_neg (by rw [iI_eq0 (sm_sg _), sg_0]; exact c), if_neg c]
theorem sg_cases (z : Int) : sg z = 1 ∨ sg z = 0 ∨ sg z = -1 := by unfold sg; (repeat' split) <;> omega
theorem alg_sm {x y d : Int} {b k : Nat} {w : Int} (hw : w = 1 ∨ w = -1) : sm (alg A B C x y d b w k) := by
  unfold alg
  split
  · rcases hw with e | e <;> rcases sg_cases (B k * A b - A k * B b) with z | z | z <;> rw [e, z] <;> unfold sm <;> decide
  · exact sm_sg _
/-- the set behind a MEET -/
theorem r_alset (hD : LD n A B C la lb lc) (hR : LR n A B C) (hM : MSp n A B C K X Y D) (hP : Rp K X Y D x' y' d') (hK : K ≤ 36) (hN : 70000 ≤ N) {i b : Nat} (hb : b < n) (hi : i < K) {w : Int} (hw : w = 1 ∨ w = -1) (Kc : Int32 → Option FR5) : fX5_findRooms_b83 N (nI n) la lb lc x' y' d' (nI i) (nI b) (iI w) Kc N 0 0 = Kc (nI (alS n A B C (X i) (Y i) (D i) b w)) := by
  have hn := hR.1
  refine loop_it (fun f j (s : Nat) => fX5_findRooms_b83 N (nI n) la lb lc x' y' d' (nI i) (nI b) (iI w) Kc f (nI s) (nI j)) (fun s => Kc (nI s)) (fun k s => if decide (k ≠ b ∧ 0 < alg A B C (X i) (Y i) (D i) b w k) then s ||| 2 ^ k else s) n ?_ ?_ (by omega) 0
  · intro f s
    show fX5_findRooms_b83 N (nI n) la lb lc x' y' d' (nI i) (nI b) (iI w) Kc (f + 1) (nI s) (nI n) = _
    rw [fX5_findRooms_b83.eq_2, if_pos (nI_le' (by omega) (Nat.le_refl n))]
  · intro f j s hj
    show fX5_findRooms_b83 N (nI n) la lb lc x' y' d' (nI i) (nI b) (iI w) Kc (f + 1) (nI s) (nI j) = fX5_findRooms_b83 N (nI n) la lb lc x' y' d' (nI i) (nI b) (iI w) Kc f (nI _) (nI (j + 1))
    have e0 : nI s ||| 0 = nI s := by rw [show (0 : Int32) = nI 0 from rfl, nI_or, Nat.or_zero]
    rw [fX5_findRooms_b83.eq_2, if_neg (nI_nle' (by omega) hj), nI_1, e0]
    by_cases c : j = b
    · rw [if_pos (by rw [c]), decide_eq_false (fun z => z.1 c), if_neg (by decide)]
    · rw [if_neg (by rw [nI_eq (by omega) (by omega)]; exact c), r_along hD hR hM hP hK N hj hb hi, bd_s]
      by_cases c2 : 0 < alg A B C (X i) (Y i) (D i) b w j
      · rw [if_neg (by rw [iI_le0 (alg_sm hw)]; omega), m_shl (by omega), nI_or, nm_s, decide_eq_true ⟨c, c2⟩, if_pos rfl]
      · rw [if_pos (by rw [iI_le0 (alg_sm hw)]; omega), decide_eq_false (fun z => c2 z.2), if_neg (by decide)]
def A2 (n : Nat) (A B C : Nat → Int) (x y d : Int) (b : Nat) (w : Int) (s : Nat) : Prop := s = alS n A B C x y d b w ∨ s = alS n A B C x y d b w ||| 2 ^ b
/-- one way out of a MEET -/
theorem r_way (hD : LD n A B C la lb lc) (hR : LR n A B C) (hM : MSp n A B C K X Y D) (hP : Rp K X Y D x' y' d') (hK : K ≤ 36) (hN : 70000 ≤ N) {i b : Nat} (hb : b < n) (hi : i < K) (h0 : ht A B C b (X i) (Y i) (D i) = 0) {w : Int} (hw : w = 1 ∨ w = -1) (Kc : (Nat → Int32) → Option FR5) (f : Nat) {M : Nat → Prop} {r : Nat → Int32} (h : Mr M r) :
    ∃ r', Mr (fun s => M s ∨ A2 n A B C (X i) (Y i) (D i) b w s) r' ∧ fX5_findRooms_b63 N (nI n) la lb lc x' y' d' (nI i) (nI b) Kc (f + 1) (iI w) r = fX5_findRooms_b63 N (nI n) la lb lc x' y' d' (nI i) (nI b) Kc f (iI w + 2) r' := by
  have hn := hR.1
  have h1 := alS_lt (A := A) (B := B) (C := C) hn (X i) (Y i) (D i) b w
  have h2 := or_lt h1 (pw_lt hb hn)
  have hw2 : ¬ (2 : Int32) ≤ iI w := by rcases hw with z | z <;> rw [z] <;> decide
  rw [fX5_findRooms_b63.eq_2, if_neg hw2, r_side hD hR hM hP hK N hb hi, bd_s, if_pos (by rw [h0]; rfl), r_alset hD hR hM hP hK hN hb hi hw, ck_512 h1, m_shl (by omega), nI_or, ck_512 h2, nI_clamp (by omega), nI_clamp (by omega), nar1]
  refine ⟨_, Mr_cong (Mr_upd (Mr_upd h _) _) (fun s => ?_), rfl⟩
  unfold A2
  rw [or_assoc]
theorem r_b63 (hD : LD n A B C la lb lc) (hR : LR n A B C) (hM : MSp n A B C K X Y D) (hP : Rp K X Y D x' y' d') (hK : K ≤ 36) (hN : 70000 ≤ N) {i b : Nat} (hb : b < n) (hi : i < K) (Kc : (Nat → Int32) → Option FR5) {M : Nat → Prop} {r : Nat → Int32} (h : Mr M r) :
    ∃ r', Mr (fun s => M s ∨ (ht A B C b (X i) (Y i) (D i) = 0 ∧ ∃ w, (w = 1 ∨ w = -1) ∧ A2 n A B C (X i) (Y i) (D i) b w s)) r' ∧ fX5_findRooms_b63 N (nI n) la lb lc x' y' d' (nI i) (nI b) Kc N (-1) r = Kc r' := by
  obtain ⟨f, rfl⟩ : ∃ f, N = f + 1 + 1 + 1 := ⟨N - 3, by omega⟩
  by_cases c : ht A B C b (X i) (Y i) (D i) = 0
  · obtain ⟨r1, q1, q2⟩ := r_way hD hR hM hP hK hN hb hi c (Or.inr rfl) Kc (f + 1 + 1) h
    obtain ⟨r2, q3, q4⟩ := r_way hD hR hM hP hK hN hb hi c (Or.inl rfl) Kc (f + 1) q1
    refine ⟨r2, Mr_cong q3 (fun s => ?_), ?_⟩
    · constructor
      · rintro ((z | z) | z)
        · exact Or.inl z
        · exact Or.inr ⟨c, -1, Or.inr rfl, z⟩
        · exact Or.inr ⟨c, 1, Or.inl rfl, z⟩
      · rintro (z | ⟨-, w, rfl | rfl, z⟩)
        · exact Or.inl (Or.inl z)
        · exact Or.inr z
        · exact Or.inl (Or.inr z)
    · rw [show (-1 : Int32) = iI (-1) from rfl, q2, show iI (-1) + 2 = iI 1 from by decide, q4, fX5_findRooms_b63.eq_2, if_pos (by decide)]
  · refine ⟨r, Mr_cong h (fun s => ⟨Or.inl, fun z => z.elim id (fun z => absurd z.1 c)⟩), ?_⟩
    rw [fX5_findRooms_b63.eq_2, if_neg (by decide), r_side hD hR hM hP hK _ hb hi, bd_s, if_neg (by rw [iI_eq0 (sm_sg _), sg_0]; exact c)]
/-- all MEETS -/
theorem r_b43 (hD : LD n A B C la lb lc) (hR : LR n A B C) (hM : MSp n A B C K X Y D) (hP : Rp K X Y D x' y' d') (hK : K ≤ 36) (hN : 70000 ≤ N) (Kc : (Nat → Int32) → Option FR5) {M : Nat → Prop} {r : Nat → Int32} (h : Mr M r) :
    ∃ r', Mr (fun s => M s ∨ ∃ i b w, i < K ∧ b < n ∧ ht A B C b (X i) (Y i) (D i) = 0 ∧ (w = 1 ∨ w = -1) ∧ A2 n A B C (X i) (Y i) (D i) b w s) r' ∧ fX5_findRooms_b43 N (nI n) la lb lc (nI K) x' y' d' Kc N 0 r = Kc r' := by
  have hn := hR.1
  obtain ⟨r', p1, e⟩ := loop_ex (fun f i (s : Nat → Int32) => fX5_findRooms_b43 N (nI n) la lb lc (nI K) x' y' d' Kc f (nI i) s) Kc K
    (fun j r => Mr (fun s => M s ∨ ∃ i b w, i < j ∧ b < n ∧ ht A B C b (X i) (Y i) (D i) = 0 ∧ (w = 1 ∨ w = -1) ∧ A2 n A B C (X i) (Y i) (D i) b w s) r)
    (fun f s hp => by rw [fX5_findRooms_b43.eq_2, if_pos (nI_le' (by omega) (Nat.le_refl K))])
    (fun f i r hi hp => by
      rw [fX5_findRooms_b43.eq_2, if_neg (nI_nle' (by omega) hi), nI_1]
      obtain ⟨r', q1, e⟩ := loop_ex (fun f' b (s : Nat → Int32) => fX5_findRooms_b53 N (nI n) la lb lc x' y' d' (nI i) (fun (d_r_772 : Nat → Int32) => fX5_findRooms_b43 N (nI n) la lb lc (nI K) x' y' d' Kc f (nI (i + 1)) d_r_772) f' (nI b) s) (fun r => fX5_findRooms_b43 N (nI n) la lb lc (nI K) x' y' d' Kc f (nI (i + 1)) r) n
        (fun j r => Mr (fun s => (M s ∨ ∃ i' b w, i' < i ∧ b < n ∧ ht A B C b (X i') (Y i') (D i') = 0 ∧ (w = 1 ∨ w = -1) ∧ A2 n A B C (X i') (Y i') (D i') b w s) ∨ ∃ b w, b < j ∧ ht A B C b (X i) (Y i) (D i) = 0 ∧ (w = 1 ∨ w = -1) ∧ A2 n A B C (X i) (Y i) (D i) b w s) r)
        (fun f' s hp => by rw [fX5_findRooms_b53.eq_2, if_pos (nI_le' (by omega) (Nat.le_refl n))])
        (fun f' b r hb hp => by
          rw [fX5_findRooms_b53.eq_2, if_neg (nI_nle' (by omega) hb), nI_1]
          obtain ⟨r', w1, w2⟩ := r_b63 hD hR hM hP hK hN hb hi (fun (d_r_770 : Nat → Int32) => fX5_findRooms_b53 N (nI n) la lb lc x' y' d' (nI i) (fun (d_r_772 : Nat → Int32) => fX5_findRooms_b43 N (nI n) la lb lc (nI K) x' y' d' Kc f (nI (i + 1)) d_r_772) f' (nI (b + 1)) d_r_770) hp
          refine ⟨r', Mr_cong w1 (fun s => ?_), w2⟩
          constructor
          · rintro ((z | ⟨b', w, hb', z⟩) | ⟨z1, w, z2, z3⟩)
            · exact Or.inl z
            · exact Or.inr ⟨b', w, by omega, z⟩
            · exact Or.inr ⟨b, w, by omega, z1, z2, z3⟩
          · rintro (z | ⟨b', w, hb', z1, z2, z3⟩)
            · exact Or.inl (Or.inl z)
            · by_cases e : b' = b
              · subst e; exact Or.inr ⟨z1, w, z2, z3⟩
              · exact Or.inl (Or.inr ⟨b', w, by omega, z1, z2, z3⟩))
        n N 0 r (by omega) (by omega) (Mr_cong hp (fun s => ⟨Or.inl, fun z => z.elim id (fun ⟨b, _, hb, _⟩ => absurd hb (Nat.not_lt_zero b))⟩))
      refine ⟨r', Mr_cong q1 (fun s => ?_), e⟩
      constructor
      · rintro ((z | ⟨i', b, w, hi', z⟩) | ⟨b, w, z⟩)
        · exact Or.inl z
        · exact Or.inr ⟨i', b, w, by omega, z⟩
        · exact Or.inr ⟨i, b, w, by omega, z⟩
      · rintro (z | ⟨i', b, w, hi', z⟩)
        · exact Or.inl (Or.inl z)
        · by_cases e : i' = i
          · subst e; exact Or.inr ⟨b, w, z⟩
          · exact Or.inl (Or.inr ⟨i', b, w, by omega, z⟩))
    K N 0 r (by omega) (by omega) (Mr_cong h (fun s => ⟨Or.inl, fun z => z.elim id (fun ⟨b, _, _, hb, _⟩ => absurd hb (Nat.not_lt_zero b))⟩))
  exact ⟨r', p1, e⟩
end RRM
