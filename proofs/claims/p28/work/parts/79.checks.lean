/-! ===== the law's checks: counts and rooms ===== -/
section PCK
theorem c_low (N : Nat) (x : Int32) {k : Nat} (hk : 0 < k) (hk2 : k ≤ 1000000) : ∃ r, r < k ∧ fL_low N x (nI k) = some (nI r) := by
  obtain ⟨w, hw⟩ : ∃ w : Nat, w = (x.toBitVec &&& 2147483647#32).toNat := ⟨_, rfl⟩
  have h1 : w < 2147483648 := by
    rw [hw, BitVec.toNat_and]
    exact Nat.lt_of_le_of_lt Nat.and_le_right (by decide)
  have h2 : x &&& 2147483647 = nI w := by
    apply Int32.toBitVec_inj.mp
    show x.toBitVec &&& (2147483647 : Int32).toBitVec = BitVec.ofNat 32 w
    rw [hw, BitVec.ofNat_toNat, BitVec.setWidth_eq]
    rfl
  refine ⟨w % k, Nat.mod_lt _ hk, ?_⟩
  rw [fL_low.eq_1, h2, nI_rem h1 (by omega), nz_s _ (by rw [← iI_nI, iI_eq0 (sm_n (by omega))]; omega)]
theorem c_size_b (N : Nat) : ∀ (t s a f : Nat), s < 2 ^ t → t ≤ 9 → t < f → fL_size_b4 N f (nI a) (nI s) = some (nI (a + pcn t s))
  | 0, s, a, f, h, _, hf => by
    obtain ⟨f', rfl⟩ : ∃ f', f = f' + 1 := ⟨f - 1, by omega⟩
    obtain rfl : s = 0 := by simp at h; exact h
    rw [fL_size_b4.eq_2, if_pos (by decide)]
    rfl
  | t + 1, s, a, f, h, ht, hf => by
    obtain ⟨f', rfl⟩ : ∃ f', f = f' + 1 := ⟨f - 1, by omega⟩
    have h9 : s < 512 := lt512 h (by omega)
    rw [fL_size_b4.eq_2]
    by_cases c : s = 0
    · subst c
      have : ∀ t, pcn t 0 = 0 := fun t => by
        induction t with
        | zero => rfl
        | succ t ih => show 0 % 2 + pcn t (0 / 2) = 0; rw [show 0 / 2 = 0 from rfl, ih]
      rw [if_pos (by decide), this]
      rfl
    · rw [if_neg (by rw [← iI_nI, iI_le0 (sm_n (by omega))]; omega), (nI_half (by omega)).1, (nI_half (by omega)).2, nI_add, c_size_b N t (s / 2) (a + s % 2) f' (by rw [Nat.pow_succ] at h; omega) (by omega) (by omega)]
      show some (nI (a + s % 2 + pcn t (s / 2))) = some (nI (a + (s % 2 + pcn t (s / 2))))
      rw [Nat.add_assoc]
theorem c_size {N : Nat} (hN : 70000 ≤ N) {s : Nat} (h : s < 512) : fL_size N (nI s) = some (nI (pc s)) := by
  rw [fL_size.eq_1, show (0 : Int32) = nI 0 from rfl, c_size_b N 9 s 0 N h (by omega) (by omega), pcn_9 s h, Nat.zero_add]
variable {n : Nat} {A B C : Nat → Int} {la lb lc : Nat → Int32} {N : Nat} {K : Nat} {X Y D : Nat → Int} {mx my md mt mv rs rn rw_ : Nat → Int32} {ln mn rk_ : Int32}
theorem bdd_flat (hN : ∀ j, j < n → ¬ (A j = 0 ∧ B j = 0)) (hNP : ¬ NP n A B) (s : Nat) : bdd n A B s = false := by
  cases hb : bdd n A B s with
  | false => rfl
  | true =>
    obtain ⟨h1, h2⟩ := (bdd_iff hN s).mp hb
    exact absurd (flat_ub h1 hN hNP) h2
theorem a_counts (h : HS n A B C K X Y D la lb lc ln mx my md mt mv mn rs rn rk_) (hN : 70000 ≤ N) : fL_counts N la lb lc ln mt mn rs rk_ (nI n) = some 1 := by
  obtain ⟨rfl, hD, hR, hU, ⟨rfl, hK, hM, hP, hT, hV⟩, hRN⟩ := h
  have hn := hR.1
  have hN0 := LR_n0 hR
  obtain ⟨p0, p1, p2⟩ := a_poly hR hU hM hT hK hN
  obtain ⟨q0, q1, q2⟩ := a_polyA hD hR hN
  have hS := lowS_le (A := A) (B := B) (C := C) n
  have hS81 : lowS A B C n ≤ 81 := Nat.le_trans hS (Nat.mul_le_mul hn hn)
  have hpr := a_pairs hR hU hN hM hT hK
  obtain ⟨S, hSd⟩ : ∃ S, S = lowS A B C n := ⟨_, rfl⟩
  have g0 := (a_pair hR hU hN hM hT hK (t := lowS A B C n) (by omega)).1 (Nat.le_refl _)
  have g1 := (a_pair hR hU hN hM hT hK (t := lowS A B C n - 1) (by omega)).2
  rw [← hSd] at p0 q0 hpr g0 g1 hS81
  have e1 : rk_ = (1 + nI n) + nI S := by
    rw [hRN.1, cnt_rooms_512 hn hN0 hU, ← hSd, show (1 : Int32) = nI 1 from rfl, nI_add, nI_add]
  have last : fL_counts_b117 N (nI n) mt (nI K) (nI S) 1 1 = some 1 := by
    rw [fL_counts_b117.eq_1, if_neg (by decide)]
    by_cases c : S = 0
    · rw [if_pos (by rw [c]; rfl), zo_1]
    · rw [if_neg (by rw [← iI_nI, iI_eq0 (sm_n (by omega))]; omega), nI_m1 S (by omega)]
      obtain ⟨i, j, hij, hj, e⟩ := g1 (by omega)
      rw [e, bdn_s, c_size hN (or_lt (pw_lt (n := n) (by omega) hn) (pw_lt hj hn)), bd_s, pc_two i (by omega) j (by omega) hij, if_pos (show nI 2 = 2 from rfl), zo_1]
  have b92 : ∀ z : Int32, fL_counts_b92 N (nI n) mt (nI K) (nI S) 1 z z (fun s0 s1 => fL_counts_b117 N (nI n) mt (nI K) (nI S) s0 s1) = some 1 := by
    intro z
    rw [fL_counts_b92.eq_1, if_pos rfl, hpr, bd_s, if_pos rfl, g0, bdn_s, if_pos rfl]
    exact last
  rw [fL_counts.eq_1, p0, bdn_s, p2, bdn_s, if_pos rfl, p1, bdn_s, if_pos rfl, q0, bdn_s, if_pos rfl, q1, bdn_s, if_pos rfl, q2, bdn_s, if_pos rfl, fL_counts_b58.eq_1, a_rooms, bd_s, if_pos e1, a_bounded hD hR hN hRN, bd_s, a_meets, bd_s]
  have h512 : rk (fun s => rB n A B C s && bdd n A B s) 512 = rk (fun s => rB n A B C s && bdd n A B s) (2 ^ n) := rk_512 hn (fun s hs => by
    rw [Bool.and_eq_true] at hs
    exact real_lt (rB_t.mp hs.1))
  by_cases c : K = 0
  · have hNP : ¬ NP n A B := fun z => by have := (K_NP hM).mpr z; omega
    rw [if_pos (by rw [c]; rfl), cnt_bdd0 hN0 hNP]
    exact b92 0
  · have hNP : NP n A B := (K_NP hM).mp (by omega)
    have hb := cnt_bdd hN0 hU hNP
    rw [if_neg (by rw [← iI_nI, iI_eq0 (sm_n (by omega))]; omega)]
    have e2 : nI (rk (fun s => rB n A B C s && bdd n A B s) 512) = (1 - nI n) + nI S := by
      rw [← iI_nI, ← iI_nI n, ← iI_nI S, iI_1, iI_sub, iI_add, h512]
      congr 1
      omega
    rw [e2]
    exact b92 _
theorem a_rooms_chk (h : HS n A B C K X Y D la lb lc ln mx my md mt mv mn rs rn rk_) (hN : 70000 ≤ N) {s : Nat} (hs : s < 512) (hp : rB n A B C s = true) : fL_rooms N la lb ln mt mv mn rs rn rk_ (nI (rk (rB n A B C) s)) mn = some 1 := by
  obtain ⟨rfl, hD, hR, hU, ⟨rfl, hK, hM, hP, hT, hV⟩, hRN⟩ := h
  have hn := hR.1
  have hN0 := LR_n0 hR
  obtain ⟨r0, r1, r2, r3⟩ := a_room hD hR hN hT hV hK hRN hs hp
  have hc36 : rk (corN n A B C X Y D s) K ≤ 36 := Nat.le_trans (rk_le _ K) hK
  have hco := (a_corner hR hN hT hV hK hRN hs hp (t := rk (corN n A B C X Y D s) K) (by omega)).1 (Nat.le_refl _)
  have hro := a_roomOf hRN N hs
  rw [if_pos hp] at hro
  obtain ⟨-, hlt, h46, -⟩ := a_chk hR hRN N hs hp
  have hreal : Real n A B C s := rB_t.mp hp
  have hs2 : s < 2 ^ n := real_lt hreal
  have hW : walS n A B C s < 512 := lt512 (bset_lt _ n) hn
  obtain ⟨r, hr⟩ : ∃ r, r = rk (rB n A B C) s := ⟨_, rfl⟩
  obtain ⟨co, hcod⟩ : ∃ co, co = rk (corN n A B C X Y D s) K := ⟨_, rfl⟩
  obtain ⟨w, hwd⟩ : ∃ w, w = walS n A B C s := ⟨_, rfl⟩
  have hwk : ∀ k, k < 9 → w.testBit k = rB n A B C (s ^^^ 2 ^ k) := by
    intro k hk
    rw [hwd, ← wal_9 hn hs2, bset_test, decide_eq_true hk, Bool.true_and]
  rw [← hr] at r0 r1 r2 r3 hco hro hlt ⊢
  rw [← hcod] at r3 hco hc36
  rw [← hwd] at r2 hW
  -- the loop over the walls
  have loop : fL_rooms_b148 N rn (nI s) (nI w) N 1 0 = some 1 := by
    refine loop_u (fun f j => fL_rooms_b148 N rn (nI s) (nI w) f 1 (nI j)) (some 1) 9 (fun f => ?_) (fun f j hj => ?_) 9 N 0 (by omega) (by omega)
    · show fL_rooms_b148 N rn (nI s) (nI w) (f + 1) 1 (nI 9) = some 1
      rw [fL_rooms_b148.eq_2, if_pos (by decide), zo_1]
    · show fL_rooms_b148 N rn (nI s) (nI w) (f + 1) 1 (nI j) = fL_rooms_b148 N rn (nI s) (nI w) f 1 (nI (j + 1))
      have hx := xor_lt (s := s) hs hj
      rw [fL_rooms_b148.eq_2, if_neg (by rw [le9 (by omega)]; omega), m_shl (by omega), nI_xor, a_roomOf hRN N hx, bdn_s]
      cases hb : rB n A B C (s ^^^ 2 ^ j) with
      | true =>
        have hj2 : w.testBit j = true := by rw [hwk j hj]; exact hb
        rw [if_pos rfl, if_neg (by rw [← iI_nI, iI_lt0 (sm_n (by have := rk_le (rB n A B C) (s ^^^ 2 ^ j); omega))]; omega), fL_rooms_b179.eq_1, if_pos ((m_shr hW hj).mpr hj2), fL_rooms_b195.eq_1, if_pos rfl, nI_1]
        rfl
      | false =>
        have hj2 : ¬ w.testBit j = true := by rw [hwk j hj, hb]; decide
        rw [if_neg (show ¬ (false = true) by decide), if_pos (by decide), fL_rooms_b179.eq_1, if_neg (fun z => hj2 ((m_shr hW hj).mp z)), fL_rooms_b195.eq_1, if_pos rfl, nI_1]
        rfl
  have b81 : fL_rooms_b81 N rn (nI K) (nI s) (nI w) (nI co) (b01 (bdd n A B s)) 1 = some 1 := by
    rw [fL_rooms_b81.eq_1]
    by_cases c : K = 0
    · have hNP : ¬ NP n A B := fun z => by have := (K_NP hM).mpr z; omega
      have hco0 : co = 0 := by rw [hcod, c]; rfl
      rw [if_pos (by rw [c]; rfl), if_pos (by rw [hco0]; rfl), if_pos (by rw [bdd_flat hN0 hNP]; rfl)]
      rw [show (1 : Int32) &&& 1 = 1 from by decide]
      exact loop
    · have hNP : NP n A B := (K_NP hM).mp (by omega)
      obtain ⟨w1, w2, w3⟩ := room_walls hn hN0 hU hM hNP hreal
      rw [← hcod, ← hwd] at w2 w3
      rw [← hcod] at w1
      rw [if_neg (by rw [← iI_nI, iI_eq0 (sm_n (by omega))]; omega)]
      cases hb : bdd n A B s with
      | true =>
        rw [if_neg b01t, c_size hN hW, bd_s, fL_rooms_b129.eq_1, if_pos (by rw [w2 hb]), if_neg (by rw [← iI_nI, iI_le0 (sm_n (by omega))]; omega), show (1 : Int32) &&& 1 = 1 from by decide]
        exact loop
      | false =>
        rw [if_pos b01f, c_size hN hW, bd_s, fL_rooms_b129.eq_1, if_pos (by rw [w3 hb, nI_sm]), if_neg (by rw [← iI_nI, iI_le0 (sm_n (by omega))]; omega), show (1 : Int32) &&& 1 = 1 from by decide]
        exact loop
  have b65 : fL_rooms_b65 N mt mv (nI K) rs rk_ (nI r) (nI co) (fun s0 => fL_rooms_b81 N rn (nI K) (nI s) (nI w) (nI co) (b01 (bdd n A B s)) s0) = some 1 := by
    rw [fL_rooms_b65.eq_1, hco, bdn_s, if_pos rfl]
    exact b81
  have b38 : fL_rooms_b38 N la lb (nI n) mt mv (nI K) rs rn rk_ (nI r) (nI K) (nI s) (nI w) (nI co) (b01 (bdd n A B s)) = some 1 := by
    rw [fL_rooms_b38.eq_1, hro, bdn_s, if_pos rfl]
    by_cases c : r = 0
    · rw [if_pos (by rw [c]; rfl)]
      exact b65
    · rw [if_neg (by rw [← iI_nI, iI_eq0 (sm_n (by omega))]; omega), nI_m1 r (by omega)]
      obtain ⟨s', g1, g2, g3⟩ := room_ex (p := rB n A B C) (i := r - 1) (by omega)
      obtain ⟨t0, -, -, -⟩ := a_room hD hR hN hT hV hK hRN g1 g2
      rw [g3] at t0
      have hlt2 : s' < s := by
        rcases Nat.lt_or_ge s' s with z | z
        · exact z
        · have := rk_mono (p := rB n A B C) z
          omega
      rw [t0, bdn_s, if_neg (nI_nle' (by omega) hlt2)]
      exact b65
  rw [fL_rooms.eq_1, r0, bdn_s, r2, bdn_s, r3, bdn_s, r1, bdn_s]
  cases hb : bdd n A B s with
  | true => rw [hb] at b38; rw [if_pos (show b01 true = 1 from rfl)]; exact b38
  | false => rw [hb] at b38; rw [if_neg (show ¬ b01 false = 1 by decide)]; exact b38
end PCK
