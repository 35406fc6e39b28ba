/-! ===== the reference's directions ===== -/
section DQ
noncomputable def aV : List (Nat × Nat) → RT → Nat → Bool
  | [], T, _ => irB T
  | e :: L, T, x => if x % 2 = 1 then aV L (ledR T e.2 e.1) (x / 2) else aV L (ledR T e.1 e.2) (x / 2)
theorem aV_c (e : Nat × Nat) (L : List (Nat × Nat)) (T : RT) (x : Nat) : aV (e :: L) T x = if x % 2 = 1 then aV L (ledR T e.2 e.1) (x / 2) else aV L (ledR T e.1 e.2) (x / 2) := rfl
theorem aV_sum : ∀ (L : List (Nat × Nat)) (T : RT), rk (aV L T) (2 ^ L.length) = aT L T
  | [], T => by
    show 0 + (if irB T then 1 else 0) = if irB T then 1 else 0
    rw [Nat.zero_add]
  | e :: L, T => by
    rw [List.length_cons, Nat.pow_succ, Nat.mul_comm, rk_mul, sumN_s, sumN_s, aT_c, ← aV_sum L (ledR T e.1 e.2), ← aV_sum L (ledR T e.2 e.1)]
    have h0 : rk (fun y => aV (e :: L) T (0 + 2 * y)) (2 ^ L.length) = rk (aV L (ledR T e.1 e.2)) (2 ^ L.length) := by
      apply rk_cong
      intro y _
      rw [aV_c, if_neg (by omega), show (0 + 2 * y) / 2 = y by omega]
    have h1 : rk (fun y => aV (e :: L) T (1 + 2 * y)) (2 ^ L.length) = rk (aV L (ledR T e.2 e.1)) (2 ^ L.length) := by
      apply rk_cong
      intro y _
      rw [aV_c, if_pos (by omega), show (1 + 2 * y) / 2 = y by omega]
    rw [h0, h1]
    show 0 + _ + _ = _
    omega
/-- arcs, and what they lead to -/
def CH (D T : RT) : Prop := (∀ x y, D x y → T x y) ∧ ∀ x y, T x y → ∃ z, D z y ∧ (x = z ∨ T x z)
theorem CH_led {D T : RT} (h : CH D T) {D' : RT} (u v : Nat) (hD : ∀ x y, D' x y ↔ D x y ∨ (x = u ∧ y = v)) : CH D' (ledR T u v) := by
  refine ⟨fun x y z => ?_, fun x y z => ?_⟩
  · rcases (hD x y).mp z with w | ⟨w1, w2⟩
    · exact led_up (h.1 x y w)
    · rw [w1, w2]; exact led_uv T u v
  · have old : ∀ w, (x = w ∨ T x w) → (x = w ∨ ledR T u v x w) := fun w q => q.elim Or.inl (fun q => Or.inr (led_up q))
    rcases z with z | ⟨a, b⟩
    · obtain ⟨w, q1, q2⟩ := h.2 x y z
      exact ⟨w, (hD w y).mpr (Or.inl q1), old w q2⟩
    · rcases b with b | b
      · exact ⟨u, (hD u y).mpr (Or.inr ⟨rfl, b⟩), old u a⟩
      · obtain ⟨w, q1, q2⟩ := h.2 v y b
        refine ⟨w, (hD w y).mpr (Or.inl q1), Or.inr (Or.inr ⟨a, ?_⟩)⟩
        exact q2.elim (fun q => Or.inl q.symm) Or.inr
def frE (U V : Nat → Nat) (x e : Nat) : Nat := if x / 2 ^ e % 2 = 1 then V e else U e
def toE (U V : Nat → Nat) (x e : Nat) : Nat := if x / 2 ^ e % 2 = 1 then U e else V e
def arcs (U V : Nat → Nat) (x k : Nat) : RT := fun a b => ∃ e, e < k ∧ a = frE U V x e ∧ b = toE U V x e
theorem arcs_s (U V : Nat → Nat) (x k a b : Nat) : arcs U V x (k + 1) a b ↔ arcs U V x k a b ∨ (a = frE U V x k ∧ b = toE U V x k) := by
  unfold arcs
  constructor
  · rintro ⟨e, h1, h2⟩
    by_cases c : e = k
    · rw [c] at h2; exact Or.inr h2
    · exact Or.inl ⟨e, by omega, h2⟩
  · rintro (⟨e, h1, h2⟩ | h)
    · exact ⟨e, by omega, h2⟩
    · exact ⟨k, by omega, h⟩
theorem aV_fin (U V : Nat → Nat) (x m : Nat) : ∀ (k e : Nat) (T : RT), e + k = m → trR T → CH (arcs U V x e) T → ∃ T', trR T' ∧ CH (arcs U V x m) T' ∧ aV (eL U V e k) T (x / 2 ^ e) = irB T'
  | 0, e, T, he, ht, hc => by
    obtain rfl : e = m := by omega
    exact ⟨T, ht, hc, rfl⟩
  | k + 1, e, T, he, ht, hc => by
    have h2e : x / 2 ^ (e + 1) = x / 2 ^ e / 2 := by rw [Nat.pow_succ, Nat.div_div_eq_div_mul]
    have hs : aV (eL U V e (k + 1)) T (x / 2 ^ e) = aV (eL U V (e + 1) k) (ledR T (frE U V x e) (toE U V x e)) (x / 2 ^ (e + 1)) := by
      show aV ((U e, V e) :: eL U V (e + 1) k) T (x / 2 ^ e) = _
      rw [aV_c, h2e]
      unfold frE toE
      by_cases c : x / 2 ^ e % 2 = 1
      · rw [if_pos c, if_pos c, if_pos c]
      · rw [if_neg c, if_neg c, if_neg c]
    rw [hs]
    exact aV_fin U V x m k (e + 1) _ (by omega) (led_tr ht _ _) (CH_led hc _ _ (fun a b => arcs_s U V x e a b))
/-- how many lead there -/
noncomputable def hgt (T : RT) (y : Nat) : Nat := rk (fun x => bP (T x y)) 6
theorem hgt_lt {T : RT} (ht : trR T) (hi : irR T) {z y : Nat} (hz : z < 6) (h : T z y) : hgt T z < hgt T y := by
  have hsub : ∀ i, i < 6 → (fun x => bP (T x z)) i = true → (fun x => bP (T x y)) i = true := fun i _ q => bP_t (ht i z y (bP_iff.mp q) h)
  have hle : hgt T z ≤ hgt T y := rk_sub hsub
  rcases Nat.lt_or_ge (hgt T z) (hgt T y) with c | c
  · exact c
  · exfalso
    have heq : bP (T z z) = bP (T z y) := rk_sub_eq hsub (Nat.le_antisymm hle c) z hz
    rw [bP_t h] at heq
    exact hi z (bP_iff.mp heq)
theorem hgt_6 {T : RT} (hi : irR T) {y : Nat} (hy : y < 6) : hgt T y < 6 := by
  have hle : hgt T y ≤ 6 := rk_le _ 6
  rcases Nat.lt_or_ge (hgt T y) 6 with c | c
  · exact c
  · exfalso
    have heq : bP (T y y) = true := rk_sub_eq (p := fun x => bP (T x y)) (q := fun _ => true) (s := 6) (fun _ _ _ => rfl) (by
      have : rk (fun _ => true) 6 = 6 := by decide
      rw [this]
      exact Nat.le_antisymm hle c) y hy
    exact hi y (bP_iff.mp heq)
variable {N : Nat} {U V : Nat → Nat} {d1 d2 : Nat → Int32} {m g : Nat}
theorem r_into (hN : 70000 ≤ N) (hE : EA m U V d1 d2) {x S : Nat} (hx : x < 32768) (hS : S < 64) (Kc : Int32 → Option (Int32 × Int32)) : ∃ I, I < 64 ∧ (∀ y, I.testBit y = true ↔ ∃ e, e < m ∧ S.testBit (frE U V x e) = true ∧ y = toE U V x e) ∧ fX5_directions_b38 N (nI m) d1 d2 (nI x) (nI S) Kc N 0 0 = Kc (nI I) := by
  have hm := hE.1
  obtain ⟨I, ⟨h1, h2⟩, e⟩ := loop_ex (fun f t (s : Nat) => fX5_directions_b38 N (nI m) d1 d2 (nI x) (nI S) Kc f (nI s) (nI t)) (fun s => Kc (nI s)) m
    (fun t s => s < 64 ∧ ∀ y, s.testBit y = true ↔ ∃ e, e < t ∧ S.testBit (frE U V x e) = true ∧ y = toE U V x e)
    (fun f s _ => by rw [fX5_directions_b38.eq_2, if_pos (nI_le' (by omega) (Nat.le_refl m))])
    (fun f t s ht hp => by
      obtain ⟨a1, a2, a3, a4⟩ := hE.2 t ht
      have yes : ∀ a, a = toE U V x t → a < 6 → S.testBit (frE U V x t) = true → s ||| 2 ^ a < 64 ∧ ∀ y, (s ||| 2 ^ a).testBit y = true ↔ ∃ e, e < t + 1 ∧ S.testBit (frE U V x e) = true ∧ y = toE U V x e := by
        intro a ha ha6 hb
        refine ⟨Nat.or_lt_two_pow (n := 6) hp.1 (Nat.pow_lt_pow_right (by omega) ha6), fun y => ?_⟩
        rw [Nat.testBit_or, Bool.or_eq_true, hp.2 y, Nat.testBit_two_pow, decide_eq_true_eq]
        constructor
        · rintro (⟨e, q1, q2⟩ | q)
          · exact ⟨e, by omega, q2⟩
          · exact ⟨t, by omega, hb, by rw [← ha]; exact q.symm⟩
        · rintro ⟨e, q1, q2, q3⟩
          by_cases c : e = t
          · right; rw [q3, c]; exact ha
          · exact Or.inl ⟨e, by omega, q2, q3⟩
      have no : ¬ S.testBit (frE U V x t) = true → s < 64 ∧ ∀ y, s.testBit y = true ↔ ∃ e, e < t + 1 ∧ S.testBit (frE U V x e) = true ∧ y = toE U V x e := by
        intro hb
        refine ⟨hp.1, fun y => ?_⟩
        rw [hp.2 y]
        constructor
        · rintro ⟨e, q1, q2⟩
          exact ⟨e, by omega, q2⟩
        · rintro ⟨e, q1, q2, q3⟩
          by_cases c : e = t
          · rw [c] at q2; exact absurd q2 hb
          · exact ⟨e, by omega, q2, q3⟩
      have e0 : nI s ||| 0 = nI s := by rw [show (0 : Int32) = nI 0 from rfl, nI_or, Nat.or_zero]
      rw [fX5_directions_b38.eq_2, if_neg (nI_nle' (by omega) ht), nI_shr (by omega) (by omega)]
      by_cases c : x / 2 ^ t % 2 = 1
      · have hf : frE U V x t = V t := by unfold frE; rw [if_pos c]
        have hto : toE U V x t = U t := by unfold toE; rw [if_pos c]
        rw [hf, hto] at yes
        rw [hf] at no
        rw [if_pos ((nI_odd _).mpr c), fX5_directions_b62.eq_1, if_neg one_ne0, rd_15 (by omega), a2, fX5_directions_b86.eq_1]
        by_cases c2 : S.testBit (V t) = true
        · rw [if_pos ((m_shr (by omega) (by omega)).mpr c2), if_neg one_ne0, rd_15 (by omega), a1, m_shl (by omega), nI_or, nm_s, nI_1]
          exact ⟨_, yes _ rfl a3 c2, rfl⟩
        · rw [if_neg (fun z => c2 ((m_shr (by omega) (by omega)).mp z)), e0, nI_1]
          exact ⟨_, no c2, rfl⟩
      · have hf : frE U V x t = U t := by unfold frE; rw [if_neg c]
        have hto : toE U V x t = V t := by unfold toE; rw [if_neg c]
        rw [hf, hto] at yes
        rw [hf] at no
        rw [if_neg (fun z => c ((nI_odd _).mp z)), fX5_directions_b62.eq_1, if_pos rfl, rd_15 (by omega), a1, fX5_directions_b86.eq_1]
        by_cases c2 : S.testBit (U t) = true
        · rw [if_pos ((m_shr (by omega) (by omega)).mpr c2), if_pos rfl, rd_15 (by omega), a2, m_shl (by omega), nI_or, nm_s, nI_1]
          exact ⟨_, yes _ rfl a4 c2, rfl⟩
        · rw [if_neg (fun z => c2 ((m_shr (by omega) (by omega)).mp z)), e0, nI_1]
          exact ⟨_, no c2, rfl⟩)
    m N 0 0 (by omega) (by omega) ⟨by omega, fun y => by
      rw [Nat.zero_testBit]
      constructor
      · intro z; cases z
      · rintro ⟨e, q, -⟩; omega⟩
  exact ⟨I, h1, h2, e⟩
theorem b63 : ∀ y, y < 6 → (63 : Nat).testBit y = true := by decide
theorem r_peel (hN : 70000 ≤ N) (hE : EA m U V d1 d2) {x : Nat} (hx : x < 32768) {T : RT} (ht : trR T) (hc : CH (arcs U V x m) T) (Kc : Int32 → Option (Int32 × Int32)) : ∃ s, s < 64 ∧ (s = 0 ↔ irR T) ∧ fX5_directions_b25 N (nI m) d1 d2 (nI x) Kc N 63 0 = Kc (nI s) := by
  have h6 : ∀ e, e < m → frE U V x e < 6 ∧ toE U V x e < 6 := by
    intro e he
    obtain ⟨-, -, a3, a4⟩ := hE.2 e he
    unfold frE toE
    constructor <;> split <;> assumption
  obtain ⟨s, ⟨h1, h2, h3⟩, e⟩ := loop_ex (fun f t (s : Nat) => fX5_directions_b25 N (nI m) d1 d2 (nI x) Kc f (nI s) (nI t)) (fun s => Kc (nI s)) 6
    (fun t s => s < 64 ∧ (irR T → ∀ y, s.testBit y = true → t ≤ hgt T y) ∧ ∀ y, T y y → s.testBit y = true)
    (fun f s _ => by rw [fX5_directions_b25.eq_2, if_pos (by decide)])
    (fun f t s ht6 hp => by
      obtain ⟨p1, p2, p3⟩ := hp
      rw [fX5_directions_b25.eq_2, if_neg (show ¬ (6 : Int32) ≤ nI t from nI_nle' (b := 6) (by omega) ht6)]
      obtain ⟨I, i1, i2, i3⟩ := r_into (N := N) hN hE hx p1 (fun (x5_1236 : Int32) => fX5_directions_b25 N (nI m) d1 d2 (nI x) Kc f (nI s &&& x5_1236) (nI t + 1))
      rw [i3, nI_and, nI_1]
      refine ⟨s &&& I, ⟨Nat.lt_of_le_of_lt Nat.and_le_left p1, fun hi y hy => ?_, fun y hy => ?_⟩, rfl⟩
      · rw [Nat.testBit_and, Bool.and_eq_true] at hy
        obtain ⟨e, q1, q2, q3⟩ := (i2 y).mp hy.2
        have hT : T (frE U V x e) y := hc.1 _ _ ⟨e, q1, rfl, q3⟩
        have := p2 hi _ q2
        have := hgt_lt ht hi (h6 e q1).1 hT
        omega
      · rw [Nat.testBit_and, Bool.and_eq_true]
        refine ⟨p3 y hy, (i2 y).mpr ?_⟩
        obtain ⟨z, ⟨e, q1, q2, q3⟩, q4⟩ := hc.2 y y hy
        refine ⟨e, q1, ?_, q3⟩
        rw [← q2]
        apply p3
        rcases q4 with q4 | q4
        · rw [← q4]; exact hy
        · exact ht z y z (hc.1 _ _ ⟨e, q1, q2, q3⟩) q4)
    6 N 0 63 (by omega) (by omega) ⟨by omega, fun _ y _ => Nat.zero_le _, fun y hy => by
      obtain ⟨z, ⟨e, q1, q2, q3⟩, -⟩ := hc.2 y y hy
      apply b63
      rw [q3]
      exact (h6 e q1).2⟩
  refine ⟨s, h1, ⟨fun hz y hy => ?_, fun hi => ?_⟩, e⟩
  · have := h3 y hy
    rw [hz, Nat.zero_testBit] at this
    cases this
  · apply Nat.eq_of_testBit_eq
    intro y
    rw [Nat.zero_testBit]
    apply Bool.eq_false_iff.mpr
    intro z
    by_cases c : y < 6
    · have := h2 hi y z
      have := hgt_6 hi c
      omega
    · rw [Nat.testBit_lt_two_pow (Nat.lt_of_lt_of_le h1 (show 2 ^ 6 ≤ 2 ^ y from Nat.pow_le_pow_right (by omega) (by omega)))] at z
      cases z
def emT : RT := fun _ _ => False
theorem PD_eL {U V : Nat → Nat} {m : Nat} (hd : ∀ e f, e < m → f < m → sameE U V e (U f) (V f) → e = f) : ∀ (k e : Nat), e + k = m → PD (eL U V e k)
  | 0, _, _ => List.Pairwise.nil
  | k + 1, e, he => by
    refine List.Pairwise.cons (fun f hf => ?_) (PD_eL hd k (e + 1) (by omega))
    obtain ⟨i, h1, h2, rfl⟩ := (eL_mem U V f k (e + 1)).mp hf
    have hne : ¬ sameE U V e (U i) (V i) := fun z => by
      have := hd e i (by omega) (by omega) z
      omega
    unfold sameE at hne
    dsimp only
    rw [Ne, Ne, Prod.mk.injEq, Prod.mk.injEq]
    omega
theorem o_dir {ge : Int64} {de : Int32} (h : GR ge de d1 d2) (hN : 70000 ≤ N) (t0 : Int32) :
    ∃ u v, fX4_directions N ge = some u ∧ fX5_directions N de d1 d2 t0 = some v ∧ u = v.1 := by
  obtain ⟨m, U, V, g, rfl, rfl, hE, hr, hd⟩ := h
  have hm := hE.1
  have h2m : 2 ^ m ≤ 32768 := Nat.pow_le_pow_right (n := 2) (by omega) hm
  have hemt : trR emT := fun x y z h => h.elim
  have hc : fX0_directed N 16 (lN g) 0 0 = some (nI (aT (eL U V 0 m) emT)) := c_dir (N := N) hN 16 (eL U V 0 m) g 0 0 emT hr (PD_eL hd m 0 (by omega)) (by rw [eL_len]; omega) (by rw [eL_len]; omega) ⟨by omega, fun x y _ _ => by
    unfold ad
    rw [Nat.zero_testBit]
    exact ⟨fun z => (by cases z), fun z => z.elim⟩⟩ hemt (fun x h => h.elim)
  have hsum := aV_sum (eL U V 0 m) emT
  rw [eL_len] at hsum
  rw [← hsum] at hc
  have hloop : fX5_directions_b9 N (nI m) d1 d2 0 N 0 0 = some (nI (rk (aV (eL U V 0 m) emT) (2 ^ m)), (0 : Int32)) := loop_u (fun f t => fX5_directions_b9 N (nI m) d1 d2 0 f (nI (rk (aV (eL U V 0 m) emT) t)) (nI t)) (some (nI (rk (aV (eL U V 0 m) emT) (2 ^ m)), (0 : Int32))) (2 ^ m)
    (fun f => by rw [fX5_directions_b9.eq_2, m_shl (by omega), if_pos (nI_le' (by omega) (Nat.le_refl _))])
    (fun f t ht => by
      obtain ⟨T, q1, q2, q3⟩ := aV_fin U V t m m 0 emT (by omega) hemt ⟨fun x y h => by obtain ⟨e, h, -⟩ := h; omega, fun x y h => h.elim⟩
      rw [Nat.pow_zero, Nat.div_one] at q3
      rw [fX5_directions_b9.eq_2, m_shl (by omega), if_neg (nI_nle' (by omega) ht), nI_1, nI_1, nI_a0]
      obtain ⟨s, s1, s2, s3⟩ := r_peel (N := N) hN hE (x := t) (by omega) q1 q2 (fun (x3_1238 : Int32) => if x3_1238 = 0 then fX5_directions_b9 N (nI m) d1 d2 0 f (nI (rk (aV (eL U V 0 m) emT) t + 1)) (nI (t + 1)) else fX5_directions_b9 N (nI m) d1 d2 0 f (nI (rk (aV (eL U V 0 m) emT) t)) (nI (t + 1)))
      rw [s3]
      by_cases c : s = 0
      · rw [if_pos (by rw [c]; rfl), rk_t (show aV (eL U V 0 m) emT t = true by rw [q3]; exact bP_t (s2.mp c))]
      · rw [if_neg (by rw [z_nI, nI_eq (by omega) (by omega)]; exact c), rk_f (show aV (eL U V 0 m) emT t = false by rw [q3]; exact bP_f (fun z => c (s2.mpr z)))])
    (2 ^ m) N 0 (by omega) (by omega)
  rw [fX4_directions.eq_1, fX0_tryAllDirections.eq_1, fX5_directions.eq_1, hc, bd_s, bd_s, hloop]
  exact ⟨_, _, rfl, rfl, rfl⟩
end DQ
