/-! ===== rooms, bounded, room, roomOf, corner ===== -/
section OE
variable {n : Nat} {A B C : Nat → Int} {la lb lc da db dc : Nat → Int32} {N : Nat} {K : Nat} {X Y D : Nat → Int} {mx my md mt mv rs rn : Nat → Int32} {x' y' d' r' : Nat → Int32} {p : Nat → Bool}
def RB (p : Nat → Bool) (r : Nat → Int32) : Prop := ∀ s, s < 512 → r s = b01 (p s)
theorem b01_ne (b : Bool) : (b01 b = 0) = (b = false) := propext (b01_eq0 b)
theorem nI_s0 (v : Nat) : nI v - 0 = nI v := Int32.sub_zero _
theorem c_checkRoom_t (N : Nat) {c : Nat} (hc : c ≤ 46) {i : Nat} (hi : i < c) : fX4_checkRoom N (nI c) (nI i) = some (.inr ()) := by
  rw [fX4_checkRoom.eq_1, if_neg (idx_lt0 hi (by omega)), fX3_count.eq_1, bd_s, if_pos (idx_ltK hi (by omega))]
theorem c_checkRoom_f (N : Nat) {c : Nat} {x : Int32} (h : bad x c) : fX4_checkRoom N (nI c) x = some (.inl xIOO) := by
  rw [fX4_checkRoom.eq_1]
  by_cases e : x < 0
  · rw [if_pos e]
  · rw [if_neg e, fX3_count.eq_1, bd_s, if_neg (bad_K h e)]
theorem room_ex {i : Nat} (hi : i < rk p 512) : ∃ s, s < 512 ∧ p s = true ∧ rk p s = i := rk_ex hi
/-! bounded -/
noncomputable def bdd (n : Nat) (A B : Nat → Int) (s : Nat) : Bool := bP (0 < n ∧ ∀ k, k < n → ¬ goes n A B s (B k) (-A k) ∧ ¬ goes n A B s (-B k) (A k))
theorem c_isBounded (hD : LD n A B C la lb lc) (hR : LR n A B C) (hN : 70000 ≤ N) {i s : Nat} (hi : i < 46) (hs : s < 512) (hrs : rs i = nI s) : fX3_isBounded N la lb (nI n) rs (nI i) = some (b01 (bdd n A B s)) := by
  have hn := hR.1
  rw [fX3_isBounded.eq_1, fX1_count.eq_1, bd_s]
  have hgo : ∀ k, k < n → ∀ Kc f, fX3_isBounded_b2 N la lb (nI n) rs (nI i) Kc (f + 1) (nI k) = if bP (goes n A B s (B k) (-A k) ∨ goes n A B s (-B k) (A k)) = true then some 0 else fX3_isBounded_b2 N la lb (nI n) rs (nI i) Kc f (nI (k + 1)) := by
    intro k hk Kc f
    obtain ⟨a1, a2, a3⟩ := hD k hk
    obtain ⟨r1, r2, r3, r4⟩ := hR.2 k hk
    rw [fX3_isBounded_b2.eq_2, fX1_count.eq_1, bd_s, if_neg (nI_nle' (by omega) hk), fX1_b.eq_1, rd_9 (by omega), bd_s, fX1_a.eq_1, rd_9 (by omega), bd_s, rd_46 hi, hrs, a1, a2, iI_neg, iI_neg, iI_neg, m_staysIn hD hR hN hs (by omega) (by omega), bd_s, nI_1]
    by_cases c1 : goes n A B s (B k) (-A k)
    · rw [bP_t c1, if_neg b01t, bP_t (Or.inl c1), if_pos rfl, zo_0]
    · rw [bP_f c1, if_pos b01f, rd_46 hi, hrs, Int.neg_neg, m_staysIn hD hR hN hs (by omega) (by omega), bd_s]
      by_cases c2 : goes n A B s (-B k) (A k)
      · rw [bP_t c2, if_neg b01t, bP_t (Or.inr c2), if_pos rfl, zo_0]
      · rw [bP_f c2, if_pos b01f, bP_f (fun z => z.elim c1 c2), if_neg (by decide)]
  rcases loop_find (fun f k => fX3_isBounded_b2 N la lb (nI n) rs (nI i) (if nI n ≤ 0 then zo 0 (some 0) else zo 1 (some 1)) f (nI k)) (fun k => goes n A B s (B k) (-A k) ∨ goes n A B s (-B k) (A k)) (fun _ => some 0) (if nI n ≤ 0 then zo 0 (some 0) else zo 1 (some 1)) n
    (fun f => by rw [fX3_isBounded_b2.eq_2, fX1_count.eq_1, bd_s, if_pos (nI_le' (by omega) (Nat.le_refl n))])
    (fun f k hk h => by rw [hgo k hk, bP_t h, if_pos rfl])
    (fun f k hk h => by rw [hgo k hk, bP_f h, if_neg (by decide)])
    n N 0 (by omega) (by omega) with ⟨k, -, h1, h2, -, h3⟩ | ⟨h1, h2⟩
  · unfold bdd
    rw [bP_f (fun z => h2.elim (z.2 k h1).1 (z.2 k h1).2)]
    exact h3
  · have hz : (nI n ≤ 0) ↔ n = 0 := by rw [← iI_nI, iI_le0 (sm_n (by omega))]; omega
    rw [show nI 0 = (0 : Int32) from rfl] at h2
    rw [h2]
    unfold bdd
    by_cases c : n = 0
    · rw [if_pos (hz.mpr c), bP_f (fun z => by omega), zo_0]; rfl
    · rw [if_neg (fun z => c (hz.mp z)), zo_1, bP_t ⟨by omega, fun k hk => ⟨fun z => h1 k (Nat.zero_le k) hk (Or.inl z), fun z => h1 k (Nat.zero_le k) hk (Or.inr z)⟩⟩]; rfl
theorem rk_re {p q : Nat → Bool} {σ : Nat → Nat} : ∀ {m : Nat}, (∀ s, s < m → p s = true → σ (rk p s) = s) → rk (fun s => p s && q s) m = rk (fun i => q (σ i)) (rk p m)
  | 0, _ => rfl
  | m + 1, h => by
    have ih := rk_re (q := q) (m := m) (fun s hs => h s (by omega))
    rcases hp : p m with _ | _
    · rw [rk_f (show (p m && q m) = false by rw [hp]; rfl), rk_f hp, ih]
    · rw [rk_t hp, rk_s (fun i => q (σ i)), ← ih, rk_s]
      rw [h m (by omega) hp, hp, Bool.true_and]
/-! walls -/
noncomputable def walS (n : Nat) (A B C : Nat → Int) (s : Nat) : Nat := bset (fun k => rB n A B C (s ^^^ 2 ^ k)) n
theorem xor_lt {s k : Nat} (hs : s < 512) (hk : k < 9) : s ^^^ 2 ^ k < 512 := Nat.xor_lt_two_pow (n := 9) hs (pw_lt (n := 9) hk (by omega))
theorem wal_9 (hn : n ≤ 9) {s : Nat} (hs : s < 2 ^ n) : bset (fun k => rB n A B C (s ^^^ 2 ^ k)) 9 = walS n A B C s := by
  unfold walS
  apply Nat.eq_of_testBit_eq
  intro k
  rw [bset_test, bset_test]
  by_cases c : k < n
  · rw [decide_eq_true c, decide_eq_true (show k < 9 by omega)]
  · have : rB n A B C (s ^^^ 2 ^ k) = false := by
      apply Bool.eq_false_iff.mpr
      intro z
      have h1 := real_lt (rB_t.mp z)
      have h2 : (s ^^^ 2 ^ k).testBit k = true := by
        rw [Nat.testBit_xor, Nat.testBit_two_pow_self, Nat.testBit_lt_two_pow (Nat.lt_of_lt_of_le hs (Nat.pow_le_pow_right (by omega) (by omega)))]
        rfl
      rw [Nat.testBit_lt_two_pow (Nat.lt_of_lt_of_le h1 (Nat.pow_le_pow_right (by omega) (by omega)))] at h2
      cases h2
    rw [this, Bool.and_false, Bool.and_false]
theorem c_walls {rk_ : Int32} (hn : n ≤ 9) (hN : 70000 ≤ N) (hRN : RN n A B C rs rn rk_) {i s : Nat} (hi : i < 46) (hs : s < 512) (hsn : s < 2 ^ n) (hrs : rs i = nI s) : fX3_walls N rs rn (nI i) = some (nI (walS n A B C s)) := by
  have hk46 : ∀ s, rk (rB n A B C) s ≤ s := rk_le _
  rw [fX3_walls.eq_1, ← wal_9 hn hsn]
  refine loop_it (fun f j (t : Nat) => fX3_walls_b4 N rs rn (nI i) f (nI t) (nI j)) (fun t => some (nI t)) (fun k t => if rB n A B C (s ^^^ 2 ^ k) then t ||| 2 ^ k else t) 9 ?_ ?_ (by omega) 0
  · intro f t
    show fX3_walls_b4 N rs rn (nI i) (f + 1) (nI t) (nI 9) = _
    rw [fX3_walls_b4.eq_2, if_pos (by decide)]
  · intro f j t hj
    show fX3_walls_b4 N rs rn (nI i) (f + 1) (nI t) (nI j) = fX3_walls_b4 N rs rn (nI i) f (nI _) (nI (j + 1))
    have hx := xor_lt hs hj
    rw [fX3_walls_b4.eq_2, if_neg (show ¬ (9 : Int32) ≤ nI j by rw [le9 (by omega)]; omega), rd_46 hi, hrs, m_bit N (by omega), bd_s, nI_xor, rd_512 hx, hRN.2.1 _ hx, nI_1]
    by_cases c : rB n A B C (s ^^^ 2 ^ j) = true
    · have := hk46 (s ^^^ 2 ^ j)
      rw [if_pos c, if_neg (nI_ne_m1 (by omega)), bd_s, nI_or, if_pos c]
    · rw [if_neg c, if_pos rfl, if_neg c]
/-! corners -/
noncomputable def corB (n : Nat) (A B C : Nat → Int) (s : Nat) (x y d : Int) : Bool := bP (∀ k, k < n → if s.testBit k then 0 ≤ ht A B C k x y d else ht A B C k x y d ≤ 0)
noncomputable def prj (n : Nat) (A B C : Nat → Int) (s : Nat) (x y d : Int) : Nat := (s &&& thrS n A B C x y d) ||| abvS n A B C x y d
theorem prj_t (s : Nat) (x y d : Int) (k : Nat) : (prj n A B C s x y d).testBit k = true ↔ k < n ∧ ((s.testBit k = true ∧ ht A B C k x y d = 0) ∨ 0 < ht A B C k x y d) := by
  unfold prj
  rw [Nat.testBit_or, Nat.testBit_and, Bool.or_eq_true, Bool.and_eq_true, thrS_t, abvS_t]
  constructor
  · rintro (⟨h1, h2, h3⟩ | ⟨h1, h2⟩)
    · exact ⟨h2, Or.inl ⟨h1, h3⟩⟩
    · exact ⟨h1, Or.inr h2⟩
  · rintro ⟨h1, ⟨h2, h3⟩ | h2⟩
    · exact Or.inl ⟨h2, h1, h3⟩
    · exact Or.inr ⟨h1, h2⟩
theorem prj_lt (hn : n ≤ 9) {s : Nat} (hs : s < 512) (x y d : Int) : prj n A B C s x y d < 512 := or_lt (Nat.lt_of_le_of_lt Nat.and_le_left hs) (abvS_lt hn _ _ _)
theorem prj_cor {s : Nat} (hs : s < 2 ^ n) (x y d : Int) : prj n A B C s x y d = s ↔ corB n A B C s x y d = true := by
  unfold corB
  rw [bP_iff]
  constructor
  · intro h k hk
    have h1 := prj_t (n := n) (A := A) (B := B) (C := C) s x y d k
    rw [h] at h1
    by_cases c : s.testBit k = true
    · rw [if_pos c]
      rcases (h1.mp c).2 with ⟨-, z⟩ | z <;> omega
    · rw [if_neg c]
      rcases Int.lt_trichotomy 0 (ht A B C k x y d) with z | z | z
      · exact absurd (h1.mpr ⟨hk, Or.inr z⟩) c
      · omega
      · omega
  · intro h
    apply Nat.eq_of_testBit_eq
    intro k
    rw [Bool.eq_iff_iff, prj_t]
    by_cases hk : k < n
    · have h1 := h k hk
      by_cases c : s.testBit k = true
      · rw [if_pos c] at h1
        refine ⟨fun _ => c, fun _ => ⟨hk, ?_⟩⟩
        by_cases z : ht A B C k x y d = 0
        · exact Or.inl ⟨c, z⟩
        · exact Or.inr (by omega)
      · rw [if_neg c] at h1
        constructor
        · rintro ⟨-, ⟨z, -⟩ | z⟩
          · exact z
          · omega
        · intro z; exact absurd z c
    · have : s.testBit k = false := Nat.testBit_lt_two_pow (Nat.lt_of_lt_of_le hs (Nat.pow_le_pow_right (by omega) (by omega)))
      rw [this]
      constructor
      · rintro ⟨z, -⟩; exact absurd z hk
      · intro z; exact absurd z (by decide)
theorem c_projected (hn : n ≤ 9) (hT : Tp K (fun j => thrS n A B C (X j) (Y j) (D j)) mt) (hV : Tp K (fun j => abvS n A B C (X j) (Y j) (D j)) mv) (hK : K ≤ 36) (N : Nat) {m s : Nat} (hm : m < K) : fX2_projected N mt mv (nI m) (nI s) = some (nI (prj n A B C s (X m) (Y m) (D m))) := by
  have h1 : mt m = nI (thrS n A B C (X m) (Y m) (D m)) := hT m hm
  have h2 : mv m = nI (abvS n A B C (X m) (Y m) (D m)) := hV m hm
  rw [fX2_projected.eq_1, rd_36 (by omega), rd_36 (by omega), h1, h2, nI_and, nI_or]
  rfl
theorem c_isCorner (hn : n ≤ 9) (hT : Tp K (fun j => thrS n A B C (X j) (Y j) (D j)) mt) (hV : Tp K (fun j => abvS n A B C (X j) (Y j) (D j)) mv) (hK : K ≤ 36) (N : Nat) {m s : Nat} (hm : m < K) (hs : s < 512) (hsn : s < 2 ^ n) : fX2_isCornerOf N mt mv (nI m) (nI s) = some (b01 (corB n A B C s (X m) (Y m) (D m))) := by
  have hl := prj_lt (A := A) (B := B) (C := C) hn hs (X m) (Y m) (D m)
  rw [fX2_isCornerOf.eq_1, c_projected hn hT hV hK N hm, bd_s, zo_0, zo_1]
  rcases hc : corB n A B C s (X m) (Y m) (D m) with _ | _
  · rw [if_neg (by
      rw [nI_eq (by omega) (by omega), prj_cor hsn, hc]
      decide)]
    rfl
  · rw [if_pos (by rw [(prj_cor hsn _ _ _).mpr hc])]
    rfl
end OE

