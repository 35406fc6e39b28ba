/-! ===== colourings ===== -/
section CL
def updN (f : Nat → Nat) (k v j : Nat) : Nat := if j = k then v else f j
/-- a colour that a DOT may have beside the lower ones -/
def okC (g dot : Nat) (col : Nat → Nat) (k : Nat) : Prop := ∀ j, j < dot → ad g dot j = true → col j ≠ k
noncomputable def cc (c g : Nat) : Nat → Nat → (Nat → Nat) → Nat
  | 0, _, _ => 1
  | r + 1, dot, col => sumN (fun k => if bP (okC g dot col k) then cc c g r (dot + 1) (updN col dot k) else 0) c
theorem cc_s (c g r dot : Nat) (col : Nat → Nat) : cc c g (r + 1) dot col = sumN (fun k => if bP (okC g dot col k) then cc c g r (dot + 1) (updN col dot k) else 0) c := rfl
/-- no EDGE between two of one colour -/
noncomputable def prP (g : Nat) (col : Nat → Nat) : Bool := bP (∀ a b, a < 6 → b < 6 → ad g a b = true → col a ≠ col b)
theorem sumN_add (f h : Nat → Nat) : ∀ n, sumN (fun i => f i + h i) n = sumN f n + sumN h n
  | 0 => rfl
  | n + 1 => by rw [sumN_s, sumN_s, sumN_s, sumN_add f h n]; omega
theorem rk_sum (p : Nat → Bool) : ∀ n, rk p n = sumN (fun k => if p k then 1 else 0) n
  | 0 => rfl
  | n + 1 => by rw [rk_s, sumN_s, rk_sum p n]
theorem rk_mul (p : Nat → Bool) (c : Nat) : ∀ n, rk p (c * n) = sumN (fun k => rk (fun y => p (k + c * y)) n) c
  | 0 => by
    rw [Nat.mul_zero, rk_0]
    exact (sumN_0 (fun i _ => rfl)).symm
  | n + 1 => by
    rw [Nat.mul_succ, rk_split, rk_mul p c n, rk_sum (fun s => p (c * n + s)), ← sumN_add]
    apply sumN_cong
    intro k hk
    rw [rk_s, Nat.add_comm (c * n) k]
theorem dig_0 {c k y : Nat} (hk : k < c) : (k + c * y) / c ^ 0 % c = k := by
  rw [Nat.pow_zero, Nat.div_one, Nat.add_mul_mod_self_left, Nat.mod_eq_of_lt hk]
theorem dig_s {c k y i : Nat} (hk : k < c) : (k + c * y) / c ^ (i + 1) % c = y / c ^ i % c := by
  rw [Nat.pow_succ, Nat.mul_comm (c ^ i) c, ← Nat.div_div_eq_div_mul, Nat.add_mul_div_left _ _ (by omega), Nat.div_eq_of_lt hk, Nat.zero_add]
theorem cc_rk (c g : Nat) (hs : Sy g) : ∀ (r dot : Nat) (col : Nat → Nat), dot + r = 6 → (∀ a b, a < dot → b < dot → ad g a b = true → col a ≠ col b) → rk (fun x => prP g (fun j => if j < dot then col j else x / c ^ (j - dot) % c)) (c ^ r) = cc c g r dot col
  | 0, dot, col, hd, hp => by
    rw [Nat.pow_zero, rk_s, rk_0, if_pos]
    · rfl
    · apply bP_t
      intro a b ha hb hab
      dsimp only
      rw [if_pos (by omega), if_pos (by omega)]
      exact hp a b (by omega) (by omega) hab
  | r + 1, dot, col, hd, hp => by
    rw [Nat.pow_succ, Nat.mul_comm, rk_mul, cc_s]
    apply sumN_cong
    intro k hk
    have e : ∀ y, prP g (fun j => if j < dot then col j else (k + c * y) / c ^ (j - dot) % c) = prP g (fun j => if j < dot + 1 then updN col dot k j else y / c ^ (j - (dot + 1)) % c) := by
      intro y
      congr 1
      funext j
      rcases Nat.lt_trichotomy j dot with z | z | z
      · rw [if_pos z, if_pos (by omega)]
        unfold updN
        rw [if_neg (by omega)]
      · subst z
        rw [if_neg (by omega), if_pos (by omega), Nat.sub_self, dig_0 hk]
        unfold updN
        rw [if_pos rfl]
      · rw [if_neg (by omega), if_neg (by omega), show j - dot = j - (dot + 1) + 1 by omega, dig_s hk]
    rw [rk_cong (fun y _ => e y)]
    by_cases ok : okC g dot col k
    · rw [if_pos (bP_t ok)]
      apply cc_rk c g hs r (dot + 1) (updN col dot k) (by omega)
      intro a b ha hb hab
      unfold updN
      obtain ⟨hba, hne⟩ := hs.2 a b (by omega) (by omega) hab
      by_cases ca : a = dot
      · subst ca
        rw [if_pos rfl, if_neg (fun z => hne z.symm)]
        exact fun z => ok b (by omega) hab z.symm
      · by_cases cb : b = dot
        · subst cb
          rw [if_neg ca, if_pos rfl]
          exact ok a (by omega) hba
        · rw [if_neg ca, if_neg cb]
          exact hp a b (by omega) (by omega) hab
    · rw [bP_f ok, if_neg (by decide)]
      apply rk_none
      intro y _
      apply bP_f
      intro h
      apply ok
      intro j hj hadj
      have := h dot j (by omega) (by omega) hadj
      unfold updN at this
      dsimp only at this
      rw [if_pos (by omega), if_pos rfl, if_pos (by omega), if_neg (by omega)] at this
      exact fun z => this z.symm
variable {N : Nat} {U V : Nat → Nat} {d1 d2 : Nat → Int32} {m g : Nat}
theorem and64 {a b : Nat} (ha : a < 64) : (nI a &&& nI b = 0) ↔ ∀ i, i < 6 → ¬ (a.testBit i = true ∧ b.testBit i = true) := by
  rw [nI_and, z_nI, nI_eq (Nat.lt_of_le_of_lt Nat.and_le_left (by omega)) (by omega)]
  constructor
  · intro h i _ hi
    have := congrArg (fun z => Nat.testBit z i) h
    simp only [Nat.testBit_and, Nat.zero_testBit, hi.1, hi.2, Bool.and_true] at this
    cases this
  · intro h
    apply Nat.eq_of_testBit_eq
    intro i
    rw [Nat.testBit_and, Nat.zero_testBit]
    by_cases c : i < 6
    · cases ha' : a.testBit i
      · rfl
      · cases hb' : b.testBit i
        · rfl
        · exact absurd ⟨ha', hb'⟩ (h i c)
    · rw [Nat.testBit_lt_two_pow (Nat.lt_of_lt_of_le ha (show 64 ≤ 2 ^ i by have := Nat.pow_le_pow_right (n := 2) (by omega) (show 6 ≤ i by omega); omega)), Bool.false_and]
/-- the class colours DOT by DOT -/
theorem c_tried (hN : 70000 ≤ N) (hs : Sy g) {c : Nat} (hc : c ≤ 6) : ∀ (r d dot D : Nat) (col : Nat → Nat), dot + r = 6 → r < d → D < 2 ^ 36 → (∀ k j, k < 6 → j < 6 → (ad D k j = true ↔ j < dot ∧ col j = k)) → fX0_tried N d (lN g) (nI c) (nI dot) (lN D) = some (nI (cc c g r dot col))
  | 0, d, dot, D, col, hd, hdd, hD, hda => by
    obtain ⟨d', rfl⟩ : ∃ d', d = d' + 1 := ⟨d - 1, by omega⟩
    obtain rfl : dot = 6 := by omega
    rw [fX0_tried.eq_2, if_neg (by decide)]
    rfl
  | r + 1, d, dot, D, col, hd, hdd, hD, hda => by
    obtain ⟨d', rfl⟩ : ∃ d', d = d' + 1 := ⟨d - 1, by omega⟩
    have hdot : dot < 6 := by omega
    rw [fX0_tried.eq_2, if_pos (show nI dot < (6 : Int32) from idx_ltK (K := 6) hdot (by omega)), c_row N hs.1 hdot, bd_s, cc_s]
    exact loop_u (fun f k => fX0_tried_b21 N (fX0_tried N d') (lN g) (nI c) (nI dot) (lN D) (nI (rowN g dot)) f (nI (sumN (fun k => if bP (okC g dot col k) then cc c g r (dot + 1) (updN col dot k) else 0) k)) (nI k)) _ c
      (fun f => by rw [fX0_tried_b21.eq_2, if_pos (nI_le' (by omega) (Nat.le_refl c))])
      (fun f k hk => by
        have hk6 : k < 6 := by omega
        rw [fX0_tried_b21.eq_2, if_neg (nI_nle' (by omega) hk), c_row N hD hk6, bd_s, nI_1, nI_1]
        have hok : (nI (rowN D k) &&& nI (rowN g dot) = 0) ↔ okC g dot col k := by
          rw [and64 (rowN_lt D k)]
          constructor
          · intro h j hj hadj he
            apply h j (by omega)
            rw [rowN_t, rowN_t, decide_eq_true (show j < 6 by omega), Bool.true_and, Bool.true_and]
            exact ⟨(hda k j hk6 (by omega)).mpr ⟨hj, he⟩, hadj⟩
          · rintro h j hj ⟨h1, h2⟩
            rw [rowN_t, decide_eq_true hj, Bool.true_and] at h1 h2
            obtain ⟨q1, q2⟩ := (hda k j hk6 hj).mp h1
            exact h j q1 h2 q2
        by_cases ok : okC g dot col k
        · have hp : 2 ^ (6 * k + dot) < 2 ^ 36 := p36 hk6 hdot
          have ih := c_tried hN hs hc r d' (dot + 1) (D ||| 2 ^ (6 * k + dot)) (updN col dot k) (by omega) (by omega) (Nat.or_lt_two_pow hD hp) (fun k' j hk' hj => by
            unfold ad
            rw [Nat.testBit_or, Bool.or_eq_true, Nat.testBit_two_pow, decide_eq_true_eq]
            have := hda k' j hk' hj
            unfold ad at this
            rw [this]
            unfold updN
            by_cases cj : j = dot
            · subst cj
              rw [if_pos rfl]
              omega
            · rw [if_neg cj]
              omega)
          rw [if_pos (hok.mpr ok), c_sign N hk6 hdot, bd_s, ln_or, ih, bd_s, nI_add, sumN_st (f := fun k => if bP (okC g dot col k) then cc c g r (dot + 1) (updN col dot k) else 0) (v := cc c g r (dot + 1) (updN col dot k)) (by rw [if_pos (bP_t ok)])]
        · rw [if_neg (fun z => ok (hok.mp z)), sumN_sf (f := fun k => if bP (okC g dot col k) then cc c g r (dot + 1) (updN col dot k) else 0) (by rw [bP_f ok]; rfl)]) c N 0 (by omega) (by omega)
theorem nI_div {a b : Nat} (ha : a < 2147483648) (hb : b < 2147483648) : nI a / nI b = nI (a / b) := by
  rw [← iI_nI, ← iI_nI, ← iI_nI, iI_div (sm_n ha) (sm_n hb) (by omega)]
  rfl
theorem nI_mulN (a b : Nat) : nI a * nI b = nI (a * b) := by
  have h := iI_mul (a : Int) (b : Int)
  rw [iI_nI, iI_nI, ← Int.natCast_mul, iI_nI] at h
  exact h
abbrev CR : Type := Int32 × (Nat → Int32) × Int32
end CL

