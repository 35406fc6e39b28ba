/-! ===== the class numbers the ROOMS ===== -/
section CNM
variable {n : Nat} {A B C : Nat → Int} {la lb lc : Nat → Int32} {N : Nat} {K : Nat} {X Y D : Nat → Int} {mx my md mt : Nat → Int32}
theorem c512 {j : Nat} (h : j < 512) : ¬ (512 : Int32) ≤ nI j := by
  rw [show (512 : Int32) = nI 512 from rfl, nI_leI (by omega) (by omega)]; omega
theorem c512' : (512 : Int32) ≤ nI 512 := by
  rw [show (512 : Int32) = nI 512 from rfl, nI_leI (by omega) (by omega)]; omega
theorem c46 {j : Nat} (h : j < 46) : ¬ (46 : Int32) ≤ nI j := by
  rw [show (46 : Int32) = nI 46 from rfl, nI_leI (by omega) (by omega)]; omega
/-- the class's rows of ROOMS -/
def RN (n : Nat) (A B C : Nat → Int) (rs rn : Nat → Int32) (rk_ : Int32) : Prop := rk_ = nI (rk (rB n A B C) 512) ∧ (∀ s, s < 512 → rn s = if rB n A B C s then nI (rk (rB n A B C) s) else -1) ∧ (∀ s, s < 512 → rB n A B C s = true → rs (rk (rB n A B C) s) = nI s)
theorem c_give {p : Nat → Bool} (hp : rk p 512 ≤ 46) (hN : 70000 ≤ N) {rs rn : Nat → Int32} {k0 : Int32} (h : ∀ s, s < 512 → rn s = if p s then 0 else -1) :
    ∃ rs' rn', fX3_giveNumbers N rs rn k0 = some (rs', rn', nI (rk p 512)) ∧ (∀ s, s < 512 → rn' s = if p s then nI (rk p s) else -1) ∧ (∀ s, s < 512 → p s = true → rs' (rk p s) = nI s) := by
  rw [fX3_giveNumbers.eq_1]
  obtain ⟨⟨rs', rn'⟩, ⟨p1, p2, p3⟩, e⟩ := loop_ex (fun f j (s : (Nat → Int32) × (Nat → Int32)) => fX3_giveNumbers_b7 N f (nI j) s.1 s.2 (nI (rk p j))) (fun s => some (s.1, s.2, nI (rk p 512))) 512
    (fun j s => (∀ i, i < j → s.2 i = if p i then nI (rk p i) else -1) ∧ (∀ i, j ≤ i → i < 512 → s.2 i = if p i then 0 else -1) ∧ (∀ i, i < j → p i = true → s.1 (rk p i) = nI i))
    (fun f s hp => by
      rw [fX3_giveNumbers_b7.eq_2, if_pos c512'])
    (fun f j s hj hp2 => by
      obtain ⟨rs, rn⟩ := s
      obtain ⟨p1, p2, p3⟩ := hp2
      dsimp only at p1 p2 p3 ⊢
      have hle := rk_mono (p := p) (s := j) (t := 512) (by omega)
      rw [fX3_giveNumbers_b7.eq_2, if_neg (c512 hj), rd_512 hj, p2 j (Nat.le_refl j) hj, nI_1]
      by_cases c : p j = true
      · have hlt := rk_lt (p := p) hj c
        rw [if_pos c, if_neg (show ¬ (0 : Int32) = -1 by decide), if_neg (c46 (by omega)), ck_512 hj, ck_46 (by omega), nI_clamp (by omega), nI_clamp (by omega), nI_1, ← rk_t c]
        refine ⟨(upd rs (rk p j) (nI j), upd rn j (nI (rk p j))), ⟨fun i hi => ?_, fun i h1 h2 => ?_, fun i hi hpi => ?_⟩, rfl⟩
        · by_cases e : i = j
          · subst e; dsimp only; rw [up_s, if_pos c]
          · dsimp only; rw [up_n e]; exact p1 i (by omega)
        · dsimp only; rw [up_n (by omega)]; exact p2 i (by omega) h2
        · by_cases e : i = j
          · subst e; dsimp only; rw [up_s]
          · have := rk_lt (p := p) (i := i) (s := j) (by omega) hpi
            dsimp only; rw [up_n (by omega)]; exact p3 i (by omega) hpi
      · rw [if_neg c, if_pos rfl, ← rk_f (Bool.eq_false_iff.mpr c)]
        refine ⟨(rs, rn), ⟨fun i hi => ?_, fun i h1 h2 => p2 i (by omega) h2, fun i hi hpi => ?_⟩, rfl⟩
        · by_cases e : i = j
          · subst e; dsimp only; rw [if_neg c]; have := p2 i (Nat.le_refl i) hj; rw [if_neg c] at this; exact this
          · exact p1 i (by omega)
        · by_cases e : i = j
          · subst e; exact absurd hpi c
          · exact p3 i (by omega) hpi)
    512 N 0 (rs, rn) (by omega) (by omega) ⟨fun i hi => absurd hi (Nat.not_lt_zero i), fun i _ hi => h i hi, fun i hi => absurd hi (Nat.not_lt_zero i)⟩
  exact ⟨rs', rn', e, p1, p3⟩
theorem LR_n0 (hR : LR n A B C) : ∀ j, j < n → ¬ (A j = 0 ∧ B j = 0) := fun j hj => (hR.2 j hj).2.2.2
theorem c_rooms (hD : LD n A B C la lb lc) (hR : LR n A B C) (hU : LU n A B C) (hN : 70000 ≤ N) (hM : MSp n A B C K X Y D) (hP : Rp K X Y D mx my md) (hT : Tp K (fun j => thrS n A B C (X j) (Y j) (D j)) mt) (hK : K ≤ 36) (rs rn : Nat → Int32) (k0 : Int32) :
    ∃ rs' rn' k', RN n A B C rs' rn' k' ∧ fX3_find N la lb lc (nI n) mx my md mt (nI K) rs rn k0 = some (rs', rn', k') := by
  have hn := hR.1
  -- the loop over the lines
  have hl : ∀ (M : Nat → Prop) (rn1 : Nat → Int32), Mk M rn1 → ∃ rn2, Mk (fun s => M s ∨ ∃ k, k < n ∧ Sd n A B C k s) rn2 ∧ ∀ Kc : (Nat → Int32) → Option ((Nat → Int32) × (Nat → Int32) × Int32), fX3_find_b38 N la lb lc (nI n) mx my md mt (nI K) Kc N 0 rn1 = Kc rn2 := by
    intro M rn1 h1
    have hex : ∀ m, m ≤ n → ∃ rn2, Mk (fun s => M s ∨ ∃ k, k < m ∧ Sd n A B C k s) rn2 ∧ ∀ Kc : (Nat → Int32) → Option ((Nat → Int32) × (Nat → Int32) × Int32), ∀ f, n < f + m → fX3_find_b38 N la lb lc (nI n) mx my md mt (nI K) Kc (f + m) 0 rn1 = fX3_find_b38 N la lb lc (nI n) mx my md mt (nI K) Kc f (nI m) rn2 := by
      intro m
      induction m with
      | zero =>
        intro _
        exact ⟨rn1, Mk_cong h1 (fun s => ⟨Or.inl, fun z => z.elim id (fun ⟨k, hk, _⟩ => absurd hk (Nat.not_lt_zero k))⟩), fun Kc f _ => rfl⟩
      | succ m ih =>
        intro hm
        obtain ⟨rn2, q1, q2⟩ := ih (by omega)
        obtain ⟨rn3, q3, q4⟩ := c_markAlong hD hR hU hN hM hP hT hK (k := m) (by omega) q1
        refine ⟨rn3, Mk_cong q3 (fun s => ?_), fun Kc f hf => ?_⟩
        · constructor
          · rintro ((z | ⟨k, hk, z⟩) | z)
            · exact Or.inl z
            · exact Or.inr ⟨k, by omega, z⟩
            · exact Or.inr ⟨m, by omega, z⟩
          · rintro (z | ⟨k, hk, z⟩)
            · exact Or.inl (Or.inl z)
            · by_cases e : k = m
              · subst e; exact Or.inr z
              · exact Or.inl (Or.inr ⟨k, by omega, z⟩)
        · have := q2 Kc (f + 1) (by omega)
          rw [show f + (m + 1) = f + 1 + m by omega, this, fX3_find_b38.eq_2, fX1_count.eq_1, bd_s, if_neg (nI_nle' (by omega) (by omega)), q4, bd_s, nI_1]
    obtain ⟨rn2, q1, q2⟩ := hex n (Nat.le_refl n)
    refine ⟨rn2, q1, fun Kc => ?_⟩
    have := q2 Kc (N - n) (by omega)
    rw [show N - n + n = N by omega] at this
    obtain ⟨f', hf'⟩ : ∃ f', N - n = f' + 1 := ⟨N - n - 1, by omega⟩
    rw [this, hf', fX3_find_b38.eq_2, fX1_count.eq_1, bd_s, if_pos (nI_le' (by omega) (Nat.le_refl n))]
  -- the loop that takes all marks off
  have h0 : ∀ Kc : (Nat → Int32) → Option ((Nat → Int32) × (Nat → Int32) × Int32), ∃ rn1, Mk (fun _ => False) rn1 ∧ fX3_find_b2 N Kc N 0 rn = Kc rn1 := by
    intro Kc
    obtain ⟨rn1, p1, e⟩ := loop_ex (fun f j (s : Nat → Int32) => fX3_find_b2 N Kc f (nI j) s) Kc 512 (fun j s => ∀ i, i < j → s i = -1)
      (fun f s hp => by rw [fX3_find_b2.eq_2, if_pos c512'])
      (fun f j s hj hp => by
        rw [fX3_find_b2.eq_2, if_neg (c512 hj), ck_512 hj, nI_1, nI_clamp (by omega)]
        refine ⟨upd s j (-1), fun i hi => ?_, rfl⟩
        by_cases e : i = j
        · subst e; rw [up_s]
        · rw [up_n e]; exact hp i (by omega))
      512 N 0 rn (by omega) (by omega) (fun i hi => absurd hi (Nat.not_lt_zero i))
    exact ⟨rn1, fun s hs => ⟨fun z => z.elim, fun _ => p1 s hs⟩, e⟩
  rw [fX3_find.eq_1]
  obtain ⟨rn1, q1, q2⟩ := h0 (fun (r_n_433 : Nat → Int32) => bd (fX1_count N (nI n)) (fun u_434 => if u_434 = 0 then ck 512 0 (fX3_find_b38 N la lb lc (nI n) mx my md mt (nI K) (fun (r_n_440 : Nat → Int32) => bd (fX3_giveNumbers N rs r_n_440 k0) (fun u_441 => some (u_441.1, u_441.2.1, u_441.2.2))) N 0 ((upd r_n_433 (Int32.toNatClampNeg 0) 0))) else fX3_find_b38 N la lb lc (nI n) mx my md mt (nI K) (fun (r_n_437 : Nat → Int32) => bd (fX3_giveNumbers N rs r_n_437 k0) (fun u_438 => some (u_438.1, u_438.2.1, u_438.2.2))) N 0 r_n_433))
  rw [q2, fX1_count.eq_1, bd_s]
  have h46 := cnt_512 (C := C) hn (LR_n0 hR)
  have fin : ∀ rn2, Mk (fun s => Real n A B C s) rn2 → ∃ rs' rn' k', RN n A B C rs' rn' k' ∧ bd (fX3_giveNumbers N rs rn2 k0) (fun u_441 => some (u_441.1, u_441.2.1, u_441.2.2)) = some (rs', rn', k') := by
    intro rn2 hm
    obtain ⟨rs', rn', g1, g2, g3⟩ := c_give (N := N) (p := rB n A B C) h46 hN (rs := rs) (rn := rn2) (k0 := k0) (fun s hs => by
      by_cases c : rB n A B C s = true
      · rw [if_pos c]; exact (hm s hs).1 (rB_t.mp c)
      · rw [if_neg c]; exact (hm s hs).2 (fun z => c (rB_t.mpr z)))
    exact ⟨rs', rn', _, ⟨rfl, g2, g3⟩, by rw [g1, bd_s]⟩
  by_cases hz : n = 0
  · subst hz
    rw [if_pos (show nI 0 = 0 from rfl), show ck 512 0 _ = _ from ck_512 (j := 0) (by omega)]
    obtain ⟨rn2, w1, w2⟩ := hl _ _ (Mk_upd q1 0)
    rw [show (Int32.toNatClampNeg 0) = 0 from by decide, w2]
    refine fin rn2 (Mk_cong w1 (fun s => ?_))
    rw [real_0]
    constructor
    · rintro ((z | z) | ⟨k, hk, z⟩)
      · exact z.elim
      · exact z
      · exact absurd hk (Nat.not_lt_zero k)
    · intro z
      exact Or.inl (Or.inr z)
  · rw [if_neg (by rw [z_nI, nI_eq (by omega) (by omega)]; exact hz)]
    obtain ⟨rn2, w1, w2⟩ := hl _ _ q1
    rw [w2]
    refine fin rn2 (Mk_cong w1 (fun s => ?_))
    rw [real_iff (LR_n0 hR) hU (by omega)]
    constructor
    · rintro (z | z)
      · exact z.elim
      · exact z
    · intro z
      exact Or.inr z
end CNM

