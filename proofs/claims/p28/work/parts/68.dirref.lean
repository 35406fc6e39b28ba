/-! ===== the reference's directions ===== -/
section DQ
noncomputable def aV : List (Nat × Nat) → RT → Nat → Bool
  | [], T, _ => irB T
  | e :: L, T, x => if x % 2 = 1 then aV L (ledR T e.2 e.1) (x / 2) else aV L (ledR T e.1 e.2) (x / 2)
theorem aV_c (e : Nat × Nat) (L : List (Nat × Nat)) (T : RT) (x : Nat) : aV (e :: L) T x = if x % 2 = 1 then aV L (ledR T e.2 e.1) (x / 2) else aV L (ledR T e.1 e.2) (x / 2) := rfl
theorem aV_sum : ∀ (L : List (Nat × Nat)) (T : RT), rk (aV L T) (2 ^ L.length) = aT L T
  | [], T => by
    show 0 + (if irB T then 1 else 0) = if irB T then 1 else 0
    rw [Nat.zero_add]
  | e :: L, T => by
    rw [List.length_cons, Nat.pow_succ, Nat.mul_comm, rk_mul, sumN_s, sumN_s, aT_c, ← aV_sum L (ledR T e.1 e.2), ← aV_sum L (ledR T e.2 e.1)]
    have h0 : rk (fun y => aV (e :: L) T (0 + 2 * y)) (2 ^ L.length) = rk (aV L (ledR T e.1 e.2)) (2 ^ L.length) := by
      apply rk_cong
      intro y _
      rw [aV_c, if_neg (by omega), show (0 + 2 * y) / 2 = y by omega]
    have h1 : rk (fun y => aV (e :: L) T (1 + 2 * y)) (2 ^ L.length) = rk (aV L (ledR T e.2 e.1)) (2 ^ L.length) := by
      apply rk_cong
      intro y _
      rw [aV_c, if_pos (by omega), show (1 + 2 * y) / 2 = y by omega]
    rw [h0, h1]
    show 0 + _ + _ = _
    omega
/-- arcs, and what they lead to -/
def CH (D T : RT) : Prop := (∀ x y, D x y → T x y) ∧ ∀ x y, T x y → ∃ z, D z y ∧ (x = z ∨ T x z)
theorem CH_led {D T : RT} (h : CH D T) {D' : RT} (u v : Nat) (hD : ∀ x y, D' x y ↔ D x y ∨ (x = u ∧ y = v)) : CH D' (ledR T u v) := by
  refine ⟨fun x y z => ?_, fun x y z => ?_⟩
  · rcases (hD x y).mp z with w | ⟨w1, w2⟩
    · exact led_up (h.1 x y w)
    · rw [w1, w2]; exact led_uv T u v
  · have old : ∀ w, (x = w ∨ T x w) → (x = w ∨ ledR T u v x w) := fun w q => q.elim Or.inl (fun q => Or.inr (led_up q))
    rcases z with z | ⟨a, b⟩
    · obtain ⟨w, q1, q2⟩ := h.2 x y z
      exact ⟨w, (hD w y).mpr (Or.inl q1), old w q2⟩
    · rcases b with b | b
      · exact ⟨u, (hD u y).mpr (Or.inr ⟨rfl, b⟩), old u a⟩
      · obtain ⟨w, q1, q2⟩ := h.2 v y b
        refine ⟨w, (hD w y).mpr (Or.inl q1), Or.inr (Or.inr ⟨a, ?_⟩)⟩
        exact q2.elim (fun q => Or.inl q.symm) Or.inr
def frE (U V : Nat → Nat) (x e : Nat) : Nat := if x / 2 ^ e % 2 = 1 then V e else U e
def toE (U V : Nat → Nat) (x e : Nat) : Nat := if x / 2 ^ e % 2 = 1 then U e else V e
def arcs (U V : Nat → Nat) (x k : Nat) : RT := fun a b => ∃ e, e < k ∧ a = frE U V x e ∧ b = toE U V x e
theorem arcs_s (U V : Nat → Nat) (x k a b : Nat) : arcs U V x (k + 1) a b ↔ arcs U V x k a b ∨ (a = frE U V x k ∧ b = toE U V x k) := by
  unfold arcs
  constructor
  · rintro ⟨e, h1, h2⟩
    by_cases c : e = k
    · rw [c] at h2; exact Or.inr h2
    · exact Or.inl ⟨e, by omega, h2⟩
  · rintro (⟨e, h1, h2⟩ | h)
    · exact ⟨e, by omega, h2⟩
    · exact ⟨k, by omega, h⟩
theorem aV_fin (U V : Nat → Nat) (x m : Nat) : ∀ (k e : Nat) (T : RT), e + k = m → trR T → CH (arcs U V x e) T → ∃ T', trR T' ∧ CH (arcs U V x m) T' ∧ aV (eL U V e k) T (x / 2 ^ e) = irB T'
  | 0, e, T, he, ht, hc => by
    obtain rfl : e = m := by omega
    exact ⟨T, ht, hc, rfl⟩
  | k + 1, e, T, he, ht, hc => by
    have h2e : x / 2 ^ (e + 1) = x / 2 ^ e / 2 := by rw [Nat.pow_succ, Nat.div_div_eq_div_mul]
    have hs : aV (eL U V e (k + 1)) T (x / 2 ^ e) = aV (eL U V (e + 1) k) (ledR T (frE U V x e) (toE U V x e)) (x / 2 ^ (e + 1)) := by
      show aV ((U e, V e) :: eL U V (e + 1) k) T (x / 2 ^ e) = _
      rw [aV_c, h2e]
      unfold frE toE
      by_cases c : x / 2 ^ e % 2 = 1
      · rw [if_pos c, if_pos c, if_pos c]
      · rw [if_neg c, if_neg c, if_neg c]
    rw [hs]
    exact aV_fin U V x m k (e + 1) _ (by omega) (led_tr ht _ _) (CH_led hc _ _ (fun a b => arcs_s U V x e a b))
/-- how many lead there -/
noncomputable def hgt (T : RT) (y : Nat) : Nat := rk (fun x => bP (T x y)) 6
theorem hgt_lt {T : RT} (ht : trR T) (hi : irR T) {z y : Nat} (hz : z < 6) (h : T z y) : hgt T z < hgt T y := by
  have hsub : ∀ i, i < 6 → (fun x => bP (T x z)) i = true → (fun x => bP (T x y)) i = true := fun i _ q => bP_t (ht i z y (bP_iff.mp q) h)
  have hle : hgt T z ≤ hgt T y := rk_sub hsub
  rcases Nat.lt_or_ge (hgt T z) (hgt T y) with c | c
  · exact c
  · exfalso
    have heq : bP (T z z) = bP (T z y) := rk_sub_eq hsub (Nat.le_antisymm hle c) z hz
    rw [bP_t h] at heq
    exact hi z (bP_iff.mp heq)
theorem hgt_6 {T : RT} (hi : irR T) {y : Nat} (hy : y < 6) : hgt T y < 6 := by
  have hle : hgt T y ≤ 6 := rk_le _ 6
  rcases Nat.lt_or_ge (hgt T y) 6 with c | c
  · exact c
  · exfalso
    have heq : bP (T y y) = true := rk_sub_eq (p := fun x => bP (T x y)) (q := fun _ => true) (s := 6) (fun _ _ _ => rfl) (by
      have : rk (fun _ => true) 6 = 6 := by decide
      rw [this]
      exact Nat.le_antisymm hle c) y hy
    exact hi y (bP_iff.mp heq)
variable {N : Nat} {U V : Nat → Nat} {d1 d2 : Nat → Int32} {m g : Nat}
theorem b63 : ∀ y, y < 6 → (63 : Nat).testBit y = true := by decide
def emT : RT := fun _ _ => False
theorem PD_eL {U V : Nat → Nat} {m : Nat} (hd : ∀ e f, e < m → f < m → sameE U V e (U f) (V f) → e = f) : ∀ (k e : Nat), e + k = m → PD (eL U V e k)
  | 0, _, _ => List.Pairwise.nil
  | k + 1, e, he => by
    refine List.Pairwise.cons (fun f hf => ?_) (PD_eL hd k (e + 1) (by omega))
    obtain ⟨i, h1, h2, rfl⟩ := (eL_mem U V f k (e + 1)).mp hf
    have hne : ¬ sameE U V e (U i) (V i) := fun z => by
      have := hd e i (by omega) (by omega) z
      omega
    unfold sameE at hne
    dsimp only
    rw [Ne, Ne, Prod.mk.injEq, Prod.mk.injEq]
    omega
end DQ

