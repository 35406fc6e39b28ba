/-! ===== the reference's sum over sets of EDGES ===== -/
section RS
def eL (U V : Nat → Nat) : Nat → Nat → List (Nat × Nat)
  | _, 0 => []
  | e, k + 1 => (U e, V e) :: eL U V (e + 1) k
theorem eL_len (U V : Nat → Nat) : ∀ (k e : Nat), (eL U V e k).length = k
  | 0, _ => rfl
  | k + 1, e => by show (eL U V (e + 1) k).length + 1 = k + 1; rw [eL_len U V k]
theorem eL_mem (U V : Nat → Nat) (x : Nat × Nat) : ∀ (k e : Nat), x ∈ eL U V e k ↔ ∃ i, e ≤ i ∧ i < e + k ∧ x = (U i, V i)
  | 0, e => by
    constructor
    · intro h; cases h
    · rintro ⟨i, h1, h2, -⟩; omega
  | k + 1, e => by
    show x ∈ (U e, V e) :: eL U V (e + 1) k ↔ _
    rw [List.mem_cons, eL_mem U V x k (e + 1)]
    constructor
    · rintro (h | ⟨i, h1, h2, h3⟩)
      · exact ⟨e, Nat.le_refl e, by omega, h⟩
      · exact ⟨i, by omega, by omega, h3⟩
    · rintro ⟨i, h1, h2, h3⟩
      by_cases c : i = e
      · subst c; exact Or.inl h3
      · exact Or.inr ⟨i, by omega, by omega, h3⟩
theorem sh_l : ∀ n, n < 32 → ((nI n &&& 31).toBitVec.smod 32).toNat = n := by decide +kernel
theorem nI_shr {s e : Nat} (hs : s < 2147483648) (he : e < 32) : nI s >>> (nI e &&& 31) = nI (s / 2 ^ e) := by
  apply Int32.toBitVec.inj
  rw [Int32.toBitVec_shiftRight]
  show (BitVec.ofNat 32 s).sshiftRight ((nI e &&& 31).toBitVec.smod 32).toNat = BitVec.ofNat 32 (s / 2 ^ e)
  have hm : (BitVec.ofNat 32 s).toNat = s := by rw [BitVec.toNat_ofNat, Nat.mod_eq_of_lt (by omega)]
  rw [sh_l e he, BitVec.sshiftRight_eq_of_msb_false (by rw [BitVec.msb_eq_decide, hm, decide_eq_false_iff_not]; omega)]
  apply BitVec.eq_of_toNat_eq
  rw [BitVec.toNat_ushiftRight, hm, BitVec.toNat_ofNat, Nat.shiftRight_eq_div_pow, Nat.mod_eq_of_lt (Nat.lt_of_le_of_lt (Nat.div_le_self _ _) (by omega))]
theorem nI_odd (v : Nat) : (nI v &&& 1 = 1) ↔ v % 2 = 1 := by
  rw [show (1 : Int32) = nI (2 ^ 1 - 1) from rfl, nI_and, Nat.and_two_pow_sub_one_eq_mod]
  rw [show nI (2 ^ 1 - 1) = nI 1 from rfl, nI_eq (by have := Nat.mod_lt v (show 0 < 2 ^ 1 by decide); omega) (by omega)]
abbrev SR : Type := Int32 × (Nat → Int32)
variable {N : Nat} {U V : Nat → Nat} {d1 d2 : Nat → Int32} {m : Nat}
def EA (m : Nat) (U V : Nat → Nat) (d1 d2 : Nat → Int32) : Prop := m ≤ 15 ∧ ∀ e, e < m → d1 e = nI (U e) ∧ d2 e = nI (V e) ∧ U e < 6 ∧ V e < 6
def Ga (γ : Nat → Nat) (dg : Nat → Int32) : Prop := ∀ d, d < 6 → dg d = nI (γ d) ∧ γ d < 6
theorem r_merge (hN : 70000 ≤ N) {γ : Nat → Nat} {dg : Nat → Int32} (h : Ga γ dg) {a b : Nat} (ha : a < 6) (hb : b < 6) (Kc : (Nat → Int32) → Option SR) : ∃ dg', Ga (mg γ a b) dg' ∧ fX5_sum_b121 N (nI (γ a)) (nI (γ b)) Kc N 0 dg = Kc dg' := by
  have hga := (h a ha).2
  have hgb := (h b hb).2
  obtain ⟨dg', h1, e⟩ := loop_ex (fun f t (s : Nat → Int32) => fX5_sum_b121 N (nI (γ a)) (nI (γ b)) Kc f (nI t) s) Kc 6
    (fun t s => ∀ d, d < 6 → s d = if d < t then nI (mg γ a b d) else dg d)
    (fun f s _ => by rw [fX5_sum_b121.eq_2, if_pos (by decide)])
    (fun f t s ht hp => by
      have hst := hp t ht
      rw [if_neg (by omega), (h t ht).1] at hst
      have hgt := (h t ht).2
      rw [fX5_sum_b121.eq_2, if_neg (show ¬ (6 : Int32) ≤ nI t from nI_nle' (b := 6) (by omega) ht), rd_6 ht, hst, ck_6 ht, rd_6 ht, hst, ck_6 ht, nI_1, nI_clamp (by omega)]
      have hm : mg γ a b t = if γ t = γ a then γ b else γ t := rfl
      have fin : ∀ v, v = mg γ a b t → ∀ d, d < 6 → upd s t (nI v) d = if d < t + 1 then nI (mg γ a b d) else dg d := by
        intro v hv d hd
        by_cases c : d = t
        · subst c; rw [up_s, if_pos (by omega), hv]
        · rw [up_n c, hp d hd]
          by_cases c2 : d < t
          · rw [if_pos c2, if_pos (by omega)]
          · rw [if_neg c2, if_neg (by omega)]
      by_cases c : γ t = γ a
      · rw [if_pos (by rw [c])]
        exact ⟨_, fin _ (by rw [hm, if_pos c]), rfl⟩
      · rw [if_neg (by rw [nI_eq (by omega) (by omega)]; exact c)]
        exact ⟨_, fin _ (by rw [hm, if_neg c]), rfl⟩)
    6 N 0 dg (by omega) (by omega) (fun d hd => by rw [if_neg (by omega)])
  refine ⟨dg', fun d hd => ?_, e⟩
  have := h1 d hd
  rw [if_pos hd] at this
  refine ⟨this, ?_⟩
  show (if γ d = γ a then γ b else γ d) < 6
  have := (h d hd).2
  split <;> omega
theorem r_walkE (hN : 70000 ≤ N) (hE : EA m U V d1 d2) (q : Int) {set : Nat} (hset : set < 32768) (Kc : Int32 → Int32 → (Nat → Int32) → Option SR) : ∀ (k e f : Nat) (γ : Nat → Nat) (dg : Nat → Int32) (s p : Int), e + k = m → k < f → Ga γ dg →
    ∃ s' p' dg', s' * q ^ p'.toNat = tV q (eL U V e k) γ s p (set / 2 ^ e) ∧ p'.natAbs ≤ p.natAbs + k ∧ fX5_sum_b49 N (nI m) d1 d2 (nI set) Kc f (iI s) (iI p) (nI e) dg = Kc (iI s') (iI p') dg'
  | 0, e, f, γ, dg, s, p, he, hf, hg => by
    obtain ⟨f', rfl⟩ : ∃ f', f = f' + 1 := ⟨f - 1, by omega⟩
    have := hE.1
    refine ⟨s, p, dg, rfl, Nat.le_refl _, ?_⟩
    rw [fX5_sum_b49.eq_2, if_pos (nI_le' (by omega) (by omega))]
  | k + 1, e, f, γ, dg, s, p, he, hf, hg => by
    obtain ⟨f', rfl⟩ : ∃ f', f = f' + 1 := ⟨f - 1, by omega⟩
    have hm := hE.1
    obtain ⟨a1, a2, a3, a4⟩ := hE.2 e (by omega)
    have h2e : set / 2 ^ (e + 1) = set / 2 ^ e / 2 := by rw [Nat.pow_succ, Nat.div_div_eq_div_mul]
    rw [fX5_sum_b49.eq_2, if_neg (nI_nle' (by omega) (by omega)), nI_shr (by omega) (by omega), nI_1]
    have htV : tV q (eL U V e (k + 1)) γ s p (set / 2 ^ e) = if set / 2 ^ e % 2 = 1 then tV q (eL U V (e + 1) k) (mg γ (U e) (V e)) (-s) (p - ff (γ (U e) = γ (V e))) (set / 2 ^ e / 2) else tV q (eL U V (e + 1) k) γ s p (set / 2 ^ e / 2) := rfl
    rw [htV, ← h2e]
    by_cases c : set / 2 ^ e % 2 = 1
    · rw [if_pos ((nI_odd _).mpr c), if_pos c, rd_n (n := 15) (by omega) (by omega), a1, rd_6 a3, rd_n (n := 15) (by omega) (by omega), a2, rd_6 a4, (hg _ a3).1, (hg _ a4).1]
      have hgU := (hg _ a3).2
      have hgV := (hg _ a4).2
      by_cases c2 : γ (U e) = γ (V e)
      · rw [if_pos (by rw [c2])]
        obtain ⟨dg1, w1, w2⟩ := r_merge hN hg a3 a4 (fun d_g_1201 : Nat → Int32 => fX5_sum_b49 N (nI m) d1 d2 (nI set) Kc f' (-(iI s)) (iI p - 0) (nI (e + 1)) d_g_1201)
        obtain ⟨s', p', dg', q1, q2, q3⟩ := r_walkE hN hE q hset Kc k (e + 1) f' (mg γ (U e) (V e)) dg1 (-s) (p - ff (γ (U e) = γ (V e))) (by omega) (by omega) w1
        have hff : ff (γ (U e) = γ (V e)) = 0 := by unfold ff; rw [if_pos c2]
        refine ⟨s', p', dg', q1, by rw [hff] at q2; omega, ?_⟩
        rw [w2, iI_neg, iI_0, iI_sub, ← hff]
        exact q3
      · rw [if_neg (by rw [nI_eq (by omega) (by omega)]; exact c2)]
        obtain ⟨dg1, w1, w2⟩ := r_merge hN hg a3 a4 (fun d_g_1200 : Nat → Int32 => fX5_sum_b49 N (nI m) d1 d2 (nI set) Kc f' (-(iI s)) (iI p - 1) (nI (e + 1)) d_g_1200)
        obtain ⟨s', p', dg', q1, q2, q3⟩ := r_walkE hN hE q hset Kc k (e + 1) f' (mg γ (U e) (V e)) dg1 (-s) (p - ff (γ (U e) = γ (V e))) (by omega) (by omega) w1
        have hff : ff (γ (U e) = γ (V e)) = 1 := by unfold ff; rw [if_neg c2]
        refine ⟨s', p', dg', q1, by rw [hff] at q2; omega, ?_⟩
        rw [w2, iI_neg, iI_1, iI_sub, ← hff]
        exact q3
    · rw [if_neg (fun z => c ((nI_odd _).mp z)), if_neg c]
      obtain ⟨s', p', dg', q1, q2, q3⟩ := r_walkE hN hE q hset Kc k (e + 1) f' γ dg s p (by omega) (by omega) hg
      exact ⟨s', p', dg', q1, by omega, q3⟩
theorem r_pow (hN : 70000 ≤ N) (q s p : Int) (hp : p.natAbs ≤ 1000) (Kc : Int32 → Option SR) : fX5_sum_b174 N (iI q) (iI p) Kc N (iI s) 0 = Kc (iI (s * q ^ p.toNat)) := by
  have hs : sm p := sm_of hp
  have h := loop_u (fun f j => fX5_sum_b174 N (iI q) (iI p) Kc f (iI (s * q ^ j)) (nI j)) (Kc (iI (s * q ^ p.toNat))) p.toNat
    (fun f => by rw [fX5_sum_b174.eq_2, if_pos (by rw [← iI_nI, iI_le hs (sm_n (by omega))]; omega)])
    (fun f j hj => by rw [fX5_sum_b174.eq_2, if_neg (by rw [← iI_nI, iI_le hs (sm_n (by omega))]; omega), nI_1, iI_mul, Int.pow_succ, Int.mul_assoc]) p.toNat N 0 (by omega) (by omega)
  rw [Int.pow_zero, Int.mul_one] at h
  exact h
theorem r_group (hN : 70000 ≤ N) (dg : Nat → Int32) (Kc : (Nat → Int32) → Option SR) : ∃ dg', Ga rid dg' ∧ fX5_sum_b17 N Kc N 0 dg = Kc dg' := by
  obtain ⟨dg', h1, e⟩ := loop_ex (fun f t (s : Nat → Int32) => fX5_sum_b17 N Kc f (nI t) s) Kc 6
    (fun t s => ∀ d, d < t → s d = nI d)
    (fun f s _ => by rw [fX5_sum_b17.eq_2, if_pos (by decide)])
    (fun f t s ht hp => by
      rw [fX5_sum_b17.eq_2, if_neg (show ¬ (6 : Int32) ≤ nI t from nI_nle' (b := 6) (by omega) ht), ck_6 ht, nI_1, nI_clamp (by omega)]
      refine ⟨_, fun d hd => ?_, rfl⟩
      by_cases c : d = t
      · subst c; rw [up_s]
      · rw [up_n c]; exact hp d (by omega))
    6 N 0 dg (by omega) (by omega) (fun d hd => absurd hd (Nat.not_lt_zero d))
  exact ⟨dg', fun d hd => ⟨h1 d hd, hd⟩, e⟩
theorem r_sum (hN : 70000 ≤ N) (hE : EA m U V d1 d2) (q : Int) (dg : Nat → Int32) : ∃ dg', fX5_sum N (nI m) d1 d2 dg (iI q) = some (iI (tT q (eL U V 0 m) rid 1 6), dg') := by
  have hm := hE.1
  have h2m : 2 ^ m ≤ 32768 := Nat.pow_le_pow_right (n := 2) (by omega) hm
  rw [fX5_sum.eq_1]
  obtain ⟨dg', -, e⟩ := loop_ex (fun f t (s : Nat → Int32) => fX5_sum_b4 N (nI m) d1 d2 (iI q) f (iI (sumI (tV q (eL U V 0 m) rid 1 6) t)) (nI t) s) (fun s => some (iI (sumI (tV q (eL U V 0 m) rid 1 6) (2 ^ m)), s)) (2 ^ m)
    (fun _ _ => True)
    (fun f s _ => by rw [fX5_sum_b4.eq_2, m_shl (by omega), if_pos (nI_le' (by omega) (Nat.le_refl _))])
    (fun f t s ht _ => by
      rw [fX5_sum_b4.eq_2, m_shl (by omega), if_neg (nI_nle' (by omega) ht)]
      obtain ⟨K17, hK17⟩ : ∃ K17 : (Nat → Int32) → Option SR, K17 = (fun (d_g_1204 : Nat → Int32) => fX5_sum_b49 N (nI m) d1 d2 (nI t) (fun (x4_1205 x5_1206 : Int32) (d_g_1207 : Nat → Int32) => fX5_sum_b174 N (iI q) x5_1206 (fun (x4_1208 : Int32) => fX5_sum_b4 N (nI m) d1 d2 (iI q) f (iI (sumI (tV q (eL U V 0 m) rid 1 6) t) + x4_1208) (nI t + 1) d_g_1207) N x4_1205 0) N 1 6 0 d_g_1204) := ⟨_, rfl⟩
      rw [← hK17]
      obtain ⟨dg1, w1, w2⟩ := r_group hN s K17
      obtain ⟨s', p', dg2, q1, q2, q3⟩ := r_walkE hN hE q (set := t) (by omega) (fun (x4_1205 x5_1206 : Int32) (d_g_1207 : Nat → Int32) => fX5_sum_b174 N (iI q) x5_1206 (fun (x4_1208 : Int32) => fX5_sum_b4 N (nI m) d1 d2 (iI q) f (iI (sumI (tV q (eL U V 0 m) rid 1 6) t) + x4_1208) (nI t + 1) d_g_1207) N x4_1205 0) m 0 N rid dg1 1 6 (by omega) (by omega) w1
      refine ⟨dg2, trivial, ?_⟩
      rw [w2, hK17]
      rw [show (iI 1) = (1 : Int32) from rfl, show (iI 6) = (6 : Int32) from rfl, show nI 0 = (0 : Int32) from rfl] at q3
      dsimp only
      rw [q3, r_pow hN q s' p' (by omega), q1, Nat.pow_zero, Nat.div_one, iI_add, nI_1]
      rfl)
    (2 ^ m) N 0 dg (by omega) (by omega) trivial
  refine ⟨dg', ?_⟩
  have hsum := tV_sum q (eL U V 0 m) rid 1 6
  rw [eL_len] at hsum
  rw [← hsum]
  exact e
end RS
