/-! ===== an EDGE taken away, or its DOTS made one: colourings and directions both ways ===== -/
section DC
theorem mg_same (u : Nat) : mg rid u u = rid := by
  funext x
  unfold mg
  split
  · rename_i h; exact h.symm
  · rfl
theorem mg_ri (u v x : Nat) : mg rid u v x = if x = u then v else x := rfl
theorem mg_eq (u v x y : Nat) : mg rid u v x = mg rid u v y ↔ x = y ∨ ((x = u ∨ x = v) ∧ (y = u ∨ y = v)) := mg_ker rid u v x y
/-- the DOTS that EDGES have -/
noncomputable def supB (L : List (Nat × Nat)) (x : Nat) : Bool := bP (∃ e, e ∈ L ∧ (e.1 = x ∨ e.2 = x))
noncomputable def sup (L : List (Nat × Nat)) : Nat := rk (supB L) 6
def mp (u v : Nat) (L : List (Nat × Nat)) : List (Nat × Nat) := L.map (fun e => (mg rid u v e.1, mg rid u v e.2))
theorem sup_tl (e : Nat × Nat) (M : List (Nat × Nat)) : sup M ≤ sup (e :: M) := rk_sub (fun x _ h => by
  obtain ⟨f, hf, h2⟩ := bP_iff.mp h
  exact bP_t ⟨f, List.mem_cons_of_mem _ hf, h2⟩)
theorem sup_mp {u v : Nat} (huv : u ≠ v) (hu : u < 6) (M : List (Nat × Nat)) : sup (mp u v M) < sup ((u, v) :: M) := by
  have hsub : ∀ x, x < 6 → supB (mp u v M) x = true → supB ((u, v) :: M) x = true := by
    intro x _ h
    obtain ⟨f, hf, h2⟩ := bP_iff.mp h
    obtain ⟨e, he, rfl⟩ := List.mem_map.mp hf
    dsimp only at h2
    rw [mg_ri, mg_ri] at h2
    have hv : ∀ y, (if y = u then v else y) = x → y = x ∨ v = x := by
      intro y hy
      by_cases c : y = u
      · rw [if_pos c] at hy; exact Or.inr hy
      · rw [if_neg c] at hy; exact Or.inl hy
    rcases h2 with h2 | h2
    · rcases hv _ h2 with z | z
      · exact bP_t ⟨e, List.mem_cons_of_mem _ he, Or.inl z⟩
      · exact bP_t ⟨(u, v), List.mem_cons_self, Or.inr z⟩
    · rcases hv _ h2 with z | z
      · exact bP_t ⟨e, List.mem_cons_of_mem _ he, Or.inr z⟩
      · exact bP_t ⟨(u, v), List.mem_cons_self, Or.inr z⟩
  have hle := rk_sub hsub
  rcases Nat.lt_or_ge (sup (mp u v M)) (sup ((u, v) :: M)) with z | z
  · exact z
  · exfalso
    have e := rk_sub_eq hsub (Nat.le_antisymm hle z) u hu
    have h1 : supB ((u, v) :: M) u = true := bP_t ⟨(u, v), List.mem_cons_self, Or.inl rfl⟩
    rw [h1] at e
    obtain ⟨f, hf, h2⟩ := bP_iff.mp e
    obtain ⟨g, hg, rfl⟩ := List.mem_map.mp hf
    dsimp only at h2
    rw [mg_ri, mg_ri] at h2
    have hv : ∀ y, ¬ (if y = u then v else y) = u := by
      intro y hy
      by_cases c : y = u
      · rw [if_pos c] at hy; exact huv hy.symm
      · rw [if_neg c] at hy; exact c hy
    rcases h2 with h2 | h2
    · exact hv _ h2
    · exact hv _ h2
theorem pow_ne {q : Int} (hq : q ≠ 0) : ∀ k : Nat, q ^ k ≠ 0
  | 0 => by rw [Int.pow_zero]; decide
  | k + 1 => by
    rw [Int.pow_succ]
    intro z
    rcases Int.mul_eq_zero.mp z with w | w
    · exact pow_ne hq k w
    · exact hq w
def in6 (L : List (Nat × Nat)) : Prop := ∀ e, e ∈ L → e.1 < 6 ∧ e.2 < 6
theorem in6_mp {u v : Nat} (hv : v < 6) {M : List (Nat × Nat)} (h : in6 M) : in6 (mp u v M) := by
  intro f hf
  obtain ⟨e, he, rfl⟩ := List.mem_map.mp hf
  have := h e he
  dsimp only
  rw [mg_ri, mg_ri]
  constructor <;> split <;> omega
/-- what goes by taking away and making one is the sum over all sets -/
theorem dc_sum (q : Int) (Φ : List (Nat × Nat) → Int) (h0 : Φ [] = q ^ 6) (h1 : ∀ u M, Φ ((u, u) :: M) = 0)
    (h2 : ∀ u v M, u ≠ v → u < 6 → v < 6 → Φ ((u, v) :: M) * q = Φ M * q - Φ (mp u v M)) :
    ∀ (l : Nat) (L : List (Nat × Nat)), L.length = l → in6 L → ∀ p : Nat, sup L ≤ p → Φ L * q ^ p = tT q L rid 1 (p : Int) * q ^ 6 := by
  intro l
  induction l with
  | zero =>
    intro L hl _ p _
    obtain rfl := List.eq_nil_of_length_eq_zero hl
    rw [h0]
    show q ^ 6 * q ^ p = 1 * q ^ ((p : Int)).toNat * q ^ 6
    rw [Int.toNat_natCast, Int.one_mul, Int.mul_comm]
  | succ l ih =>
    intro L hl h6 p hp
    obtain ⟨⟨u, v⟩, M, rfl⟩ := List.exists_cons_of_length_eq_add_one hl
    have hl' : M.length = l := by rw [List.length_cons] at hl; omega
    have h6' : in6 M := fun e he => h6 e (List.mem_cons_of_mem _ he)
    obtain ⟨hu, hv⟩ := h6 (u, v) List.mem_cons_self
    dsimp only at hu hv
    have hs1 := sup_tl (u, v) M
    rw [tT_c]
    dsimp only
    by_cases c : u = v
    · subst c
      have e : ff (rid u = rid u) = 0 := by unfold ff; rw [if_pos rfl]
      rw [h1, mg_same, e, Int.sub_zero, tT_n q M rid 1]
      rw [Int.zero_mul, Int.add_right_neg, Int.zero_mul]
    · have hs2 := sup_mp c hu M
      obtain ⟨p', rfl⟩ : ∃ p', p = p' + 1 := ⟨p - 1, by omega⟩
      have e : ff (rid u = rid v) = 1 := by unfold ff; rw [if_neg (show ¬ rid u = rid v from c)]
      have e2 : (((p' + 1 : Nat) : Int) - 1) = (p' : Int) := by omega
      have i1 := ih M hl' h6' (p' + 1) (by omega)
      have i2 := ih (mp u v M) (by unfold mp; rw [List.length_map]; exact hl') (in6_mp hv h6') p' (by omega)
      have e3 : tT q M (mg rid u v) (-1) (p' : Int) = -tT q (mp u v M) rid 1 (p' : Int) := by
        rw [tT_n q M (mg rid u v) 1]
        congr 1
        exact tT_map q (mg rid u v) M rid 1 (p' : Int)
      rw [e, e2, e3, Int.add_mul, ← i1, Int.neg_mul, ← i2, Int.pow_succ]
      have h3 := h2 u v M c hu hv
      have e4 : Φ ((u, v) :: M) * (q ^ p' * q) = Φ ((u, v) :: M) * q * q ^ p' := by grind
      rw [e4, h3]
      grind
theorem dc_all (q : Int) (hq : q ≠ 0) (Φ : List (Nat × Nat) → Int) (h0 : Φ [] = q ^ 6) (h1 : ∀ u M, Φ ((u, u) :: M) = 0)
    (h2 : ∀ u v M, u ≠ v → u < 6 → v < 6 → Φ ((u, v) :: M) * q = Φ M * q - Φ (mp u v M)) {L : List (Nat × Nat)} (h6 : in6 L) : Φ L = tT q L rid 1 6 := by
  have h := dc_sum q Φ h0 h1 h2 L.length L rfl h6 6 (rk_le _ 6)
  exact Int.eq_of_mul_eq_mul_right (pow_ne hq 6) h
/-! directions -/
def jn (T : RT) (u v : Nat) : RT := fun x y => T x y ∨ (T x u ∧ T v y) ∨ (T x v ∧ T u y)
def ctr (T : RT) (u v : Nat) : RT := fun a b => ∃ x y, mg rid u v x = a ∧ mg rid u v y = b ∧ jn T u v x y
theorem jn_tr {T : RT} (h : trR T) {u v x y z : Nat} (a : jn T u v x y) (b : jn T u v y z) : jn T u v x z := by
  rcases a with a | ⟨a1, a2⟩ | ⟨a1, a2⟩ <;> rcases b with b | ⟨b1, b2⟩ | ⟨b1, b2⟩
  · exact Or.inl (h _ _ _ a b)
  · exact Or.inr (Or.inl ⟨h _ _ _ a b1, b2⟩)
  · exact Or.inr (Or.inr ⟨h _ _ _ a b1, b2⟩)
  · exact Or.inr (Or.inl ⟨a1, h _ _ _ a2 b⟩)
  · exact Or.inr (Or.inl ⟨a1, b2⟩)
  · exact Or.inl (h _ _ _ a1 b2)
  · exact Or.inr (Or.inr ⟨a1, h _ _ _ a2 b⟩)
  · exact Or.inl (h _ _ _ a1 b2)
  · exact Or.inr (Or.inr ⟨a1, b2⟩)
theorem jn_uv {T : RT} (h : trR T) {u v x z : Nat} (a : jn T u v x u) (b : jn T u v v z) : jn T u v x z := by
  rcases a with a | ⟨a1, a2⟩ | ⟨a1, a2⟩ <;> rcases b with b | ⟨b1, b2⟩ | ⟨b1, b2⟩
  · exact Or.inr (Or.inl ⟨a, b⟩)
  · exact Or.inr (Or.inl ⟨a, b2⟩)
  · exact Or.inl (h _ _ _ a b2)
  · exact Or.inr (Or.inl ⟨a1, b⟩)
  · exact Or.inr (Or.inl ⟨a1, b2⟩)
  · exact Or.inl (h _ _ _ a1 b2)
  · exact Or.inl (h _ _ _ a1 b)
  · exact Or.inl (h _ _ _ a1 b2)
  · exact Or.inr (Or.inr ⟨a1, b2⟩)
theorem jn_vu {T : RT} (h : trR T) {u v x z : Nat} (a : jn T u v x v) (b : jn T u v u z) : jn T u v x z := by
  rcases a with a | ⟨a1, a2⟩ | ⟨a1, a2⟩ <;> rcases b with b | ⟨b1, b2⟩ | ⟨b1, b2⟩
  · exact Or.inr (Or.inr ⟨a, b⟩)
  · exact Or.inl (h _ _ _ a b2)
  · exact Or.inr (Or.inr ⟨a, b2⟩)
  · exact Or.inl (h _ _ _ a1 b)
  · exact Or.inr (Or.inl ⟨a1, b2⟩)
  · exact Or.inl (h _ _ _ a1 b2)
  · exact Or.inr (Or.inr ⟨a1, b⟩)
  · exact Or.inl (h _ _ _ a1 b2)
  · exact Or.inr (Or.inr ⟨a1, b2⟩)
theorem ctr_tr {T : RT} (h : trR T) (u v : Nat) : trR (ctr T u v) := by
  rintro a b c ⟨x, y, hx, hy, h1⟩ ⟨y', z, hy', hz, h2⟩
  refine ⟨x, z, hx, hz, ?_⟩
  rcases (mg_eq u v y y').mp (hy.trans hy'.symm) with e | ⟨e1 | e1, e2 | e2⟩
  · subst e; exact jn_tr h h1 h2
  · subst e1; subst e2; exact jn_tr h h1 h2
  · subst e1; subst e2; exact jn_uv h h1 h2
  · subst e1; subst e2; exact jn_vu h h1 h2
  · subst e1; subst e2; exact jn_tr h h1 h2
theorem ctr_in {T : RT} {u v x y : Nat} (h : T x y) : ctr T u v (mg rid u v x) (mg rid u v y) := ⟨x, y, rfl, rfl, Or.inl h⟩
theorem mg_uv' (u v : Nat) : mg rid u v u = mg rid u v v := (mg_eq u v u v).mpr (Or.inr ⟨Or.inl rfl, Or.inr rfl⟩)
theorem ctr_le {T W : RT} (hW : trR W) {u v : Nat} (h : ∀ p q, T p q → W (mg rid u v p) (mg rid u v q)) {a b : Nat} (hc : ctr T u v a b) : W a b := by
  obtain ⟨x, y, rfl, rfl, h1 | ⟨h1, h2⟩ | ⟨h1, h2⟩⟩ := hc
  · exact h x y h1
  · have q1 := h x u h1
    have q2 := h v y h2
    rw [mg_uv'] at q1
    exact hW _ _ _ q1 q2
  · have q1 := h x v h1
    have q2 := h u y h2
    rw [mg_uv'] at q2
    exact hW _ _ _ q1 q2
theorem ctr_led {T : RT} (h : trR T) (u v x y : Nat) : ctr (ledR T x y) u v = ledR (ctr T u v) (mg rid u v x) (mg rid u v y) := by
  funext a b
  refine propext ⟨fun hc => ?_, fun hc => ?_⟩
  · refine ctr_le (led_tr (ctr_tr h u v) _ _) (fun p q hpq => ?_) hc
    rcases hpq with z | ⟨z1, z2⟩
    · exact Or.inl (ctr_in z)
    · refine Or.inr ⟨?_, ?_⟩
      · rcases z1 with w | w
        · exact Or.inl (by rw [w])
        · exact Or.inr (ctr_in w)
      · rcases z2 with w | w
        · exact Or.inl (by rw [w])
        · exact Or.inr (ctr_in w)
  · exact led_le (ctr_tr (led_tr h x y) u v) (fun p q hpq => ctr_le (T := T) (ctr_tr (led_tr h x y) u v) (fun p q z => ctr_in (led_up z)) hpq) (ctr_in (led_uv T x y)) a b hc
theorem ctr_ir {T : RT} (h : trR T) {u v : Nat} : irR (ctr T u v) ↔ irR T ∧ ¬ T u v ∧ ¬ T v u := by
  constructor
  · intro hi
    refine ⟨fun x z => hi _ (ctr_in z), fun z => ?_, fun z => ?_⟩
    · have := ctr_in (u := u) (v := v) z
      rw [mg_uv'] at this
      exact hi _ this
    · have := ctr_in (u := u) (v := v) z
      rw [mg_uv'] at this
      exact hi _ this
  · rintro ⟨hi, h1, h2⟩ a ⟨x, y, hx, hy, hj⟩
    rcases (mg_eq u v x y).mp (hx.trans hy.symm) with e | ⟨e1 | e1, e2 | e2⟩
    · subst e
      rcases hj with z | ⟨z1, z2⟩ | ⟨z1, z2⟩
      · exact hi _ z
      · exact h2 (h _ _ _ z2 z1)
      · exact h1 (h _ _ _ z2 z1)
    · subst e1; subst e2
      rcases hj with z | ⟨z1, z2⟩ | ⟨z1, z2⟩
      · exact hi _ z
      · exact hi _ z1
      · exact h1 z1
    · subst e1; subst e2
      rcases hj with z | ⟨z1, z2⟩ | ⟨z1, z2⟩
      · exact h1 z
      · exact hi _ z1
      · exact h1 z1
    · subst e1; subst e2
      rcases hj with z | ⟨z1, z2⟩ | ⟨z1, z2⟩
      · exact h2 z
      · exact h2 z1
      · exact hi _ z1
    · subst e1; subst e2
      rcases hj with z | ⟨z1, z2⟩ | ⟨z1, z2⟩
      · exact hi _ z
      · exact h2 z1
      · exact hi _ z1
theorem led_ir_iff {T : RT} (ht : trR T) {u v : Nat} (huv : u ≠ v) : irR (ledR T u v) ↔ irR T ∧ ¬ T v u := by
  constructor
  · intro h
    refine ⟨fun x z => h x (led_up z), fun z => h u (Or.inr ⟨Or.inl rfl, Or.inr z⟩)⟩
  · rintro ⟨h1, h2⟩
    exact led_ir h1 ht huv h2
theorem irB_val (T : RT) : (if irB T then 1 else 0 : Nat) = if bP (irR T) = true then 1 else 0 := rfl
theorem aT_ctr {u v : Nat} (huv : u ≠ v) : ∀ (M : List (Nat × Nat)) (T : RT), trR T → aT M (ledR T u v) + aT M (ledR T v u) = aT M T + aT (mp u v M) (ctr T u v)
  | [], T, h => by
    show (if irB (ledR T u v) then 1 else 0) + (if irB (ledR T v u) then 1 else 0) = (if irB T then 1 else 0) + (if irB (ctr T u v) then (1 : Nat) else 0)
    unfold irB
    rw [bP_cong (led_ir_iff h huv), bP_cong (led_ir_iff h (fun z => huv z.symm)), bP_cong (ctr_ir h)]
    by_cases c : irR T
    · by_cases c1 : T u v
      · by_cases c2 : T v u
        · exact absurd (h u v u c1 c2) (c u)
        · rw [bP_t (P := irR T ∧ ¬ T v u) ⟨c, c2⟩, bP_f (P := irR T ∧ ¬ T u v) (fun z => z.2 c1), bP_t c, bP_f (P := irR T ∧ ¬ T u v ∧ ¬ T v u) (fun z => z.2.1 c1)]
      · by_cases c2 : T v u
        · rw [bP_f (P := irR T ∧ ¬ T v u) (fun z => z.2 c2), bP_t (P := irR T ∧ ¬ T u v) ⟨c, c1⟩, bP_t c, bP_f (P := irR T ∧ ¬ T u v ∧ ¬ T v u) (fun z => z.2.2 c2)]
          rfl
        · rw [bP_t (P := irR T ∧ ¬ T v u) ⟨c, c2⟩, bP_t (P := irR T ∧ ¬ T u v) ⟨c, c1⟩, bP_t c, bP_t (P := irR T ∧ ¬ T u v ∧ ¬ T v u) ⟨c, c1, c2⟩]
    · rw [bP_f (P := irR T ∧ ¬ T v u) (fun z => c z.1), bP_f (P := irR T ∧ ¬ T u v) (fun z => c z.1), bP_f c, bP_f (P := irR T ∧ ¬ T u v ∧ ¬ T v u) (fun z => c z.1)]
  | (x, y) :: M, T, h => by
    have i1 := aT_ctr huv M (ledR T x y) (led_tr h x y)
    have i2 := aT_ctr huv M (ledR T y x) (led_tr h y x)
    rw [ctr_led h] at i1 i2
    show aT ((x, y) :: M) (ledR T u v) + aT ((x, y) :: M) (ledR T v u) = aT ((x, y) :: M) T + aT ((mg rid u v x, mg rid u v y) :: mp u v M) (ctr T u v)
    rw [aT_c, aT_c, aT_c, aT_c]
    dsimp only
    rw [led_comm h u v x y, led_comm h u v y x, led_comm h v u x y, led_comm h v u y x]
    omega
theorem em_tr : trR emT := fun _ _ _ h _ => h.elim
theorem ctr_em (u v : Nat) : ctr emT u v = emT := by
  funext a b
  refine propext ⟨?_, fun z => z.elim⟩
  rintro ⟨x, y, -, -, h | ⟨h, -⟩ | ⟨h, -⟩⟩ <;> exact h
/-- directions without rings: the sum at -1 -/
theorem dir_sum {L : List (Nat × Nat)} (h6 : in6 L) : (aT L emT : Int) = tT (-1) L rid 1 6 := by
  refine dc_all (-1) (by decide) (fun L => (aT L emT : Int)) ?_ (fun u M => ?_) (fun u v M huv _ _ => ?_) h6
  · show ((if irB emT then 1 else 0 : Nat) : Int) = (-1) ^ 6
    rw [show irB emT = true from bP_t (fun x z => z)]
    rfl
  · rw [aT_c, aT_0 M (x := u) (led_uv emT u u)]
    rfl
  · have h := aT_ctr huv M emT em_tr
    rw [ctr_em] at h
    rw [aT_c]
    dsimp only
    rw [h]
    omega
/-! colourings -/
def tc (k : Nat) : Nat → Nat → ((Nat → Nat) → Nat) → (Nat → Nat) → Nat
  | 0, _, f, col => f col
  | r + 1, dot, f, col => sumN (fun c => tc k r (dot + 1) f (updN col dot c)) k
theorem tc_s (k r dot : Nat) (f : (Nat → Nat) → Nat) (col : Nat → Nat) : tc k (r + 1) dot f col = sumN (fun c => tc k r (dot + 1) f (updN col dot c)) k := rfl
theorem tc_cong {k : Nat} {f g : (Nat → Nat) → Nat} : ∀ (r dot : Nat) (col : Nat → Nat), (∀ x, x < dot → col x < k) → (∀ col', (∀ x, x < dot + r → col' x < k) → f col' = g col') → tc k r dot f col = tc k r dot g col
  | 0, dot, col, h, hf => hf col (fun x hx => h x (by omega))
  | r + 1, dot, col, h, hf => by
    rw [tc_s, tc_s]
    apply sumN_cong
    intro c hc
    refine tc_cong r (dot + 1) _ (fun x hx => ?_) (fun col' h' => hf col' (fun x hx => h' x (by omega)))
    unfold updN
    split
    · exact hc
    · exact h x (by omega)
theorem tc_add (k : Nat) (f g : (Nat → Nat) → Nat) : ∀ (r dot : Nat) (col : Nat → Nat), tc k r dot (fun c => f c + g c) col = tc k r dot f col + tc k r dot g col
  | 0, _, _ => rfl
  | r + 1, dot, col => by
    rw [tc_s, tc_s, tc_s, ← sumN_add]
    apply sumN_cong
    intro c _
    exact tc_add k f g r (dot + 1) _
theorem tc_zero (k : Nat) : ∀ (r dot : Nat) (col : Nat → Nat), tc k r dot (fun _ => 0) col = 0
  | 0, _, _ => rfl
  | r + 1, dot, col => by
    rw [tc_s]
    exact sumN_0 (fun c _ => tc_zero k r (dot + 1) _)
theorem sumN_const (a : Nat) : ∀ k, sumN (fun _ => a) k = k * a
  | 0 => by rw [Nat.zero_mul]; rfl
  | k + 1 => by rw [sumN_s, sumN_const a k, Nat.succ_mul]
theorem tc_one (k : Nat) : ∀ (r dot : Nat) (col : Nat → Nat), tc k r dot (fun _ => 1) col = k ^ r
  | 0, _, _ => rfl
  | r + 1, dot, col => by
    rw [tc_s, sumN_cong (g := fun _ => k ^ r) (fun c _ => tc_one k r (dot + 1) _), sumN_const, Nat.pow_succ, Nat.mul_comm]
theorem tc_swap (k : Nat) (F : Nat → (Nat → Nat) → Nat) (m : Nat) : ∀ (r dot : Nat) (col : Nat → Nat), tc k r dot (fun col => sumN (fun c => F c col) m) col = sumN (fun c => tc k r dot (F c) col) m
  | 0, _, _ => rfl
  | r + 1, dot, col => by
    rw [tc_s, sumN_cong (g := fun c' => sumN (fun c => tc k r (dot + 1) (F c) (updN col dot c')) m) (fun c' _ => tc_swap k F m r (dot + 1) _), sumN_swap (fun c' c => tc k r (dot + 1) (F c) (updN col dot c')) m k]
    rfl
theorem upd_comm {col : Nat → Nat} {u d c x : Nat} (h : u ≠ d) : updN (updN col d x) u c = updN (updN col u c) d x := by
  funext j
  unfold updN
  by_cases e : j = u
  · subst e
    rw [if_pos rfl, if_neg h, if_pos rfl]
  · rw [if_neg e]
    split
    · rfl
    · rfl
theorem upd_over {col : Nat → Nat} {u c x : Nat} : updN (updN col u x) u c = updN col u c := by
  funext j
  unfold updN
  split
  · rfl
  · rename_i h
    rfl
theorem tc_ov (k : Nat) (f : (Nat → Nat) → Nat) (u c : Nat) : ∀ (r dot : Nat) (col : Nat → Nat), u < dot → tc k r dot (fun col => f (updN col u c)) col = tc k r dot f (updN col u c)
  | 0, _, _, _ => rfl
  | r + 1, dot, col, h => by
    rw [tc_s, tc_s]
    apply sumN_cong
    intro x _
    rw [tc_ov k f u c r (dot + 1) _ (by omega), upd_comm (by omega)]
/-- one DOT coloured once more -/
theorem tc_upd (k : Nat) (f : (Nat → Nat) → Nat) (u : Nat) : ∀ (r dot : Nat) (col : Nat → Nat), dot ≤ u → u < dot + r → tc k r dot (fun col => sumN (fun c => f (updN col u c)) k) col = k * tc k r dot f col
  | 0, _, _, h1, h2 => by omega
  | r + 1, dot, col, h1, h2 => by
    by_cases e : u = dot
    · subst e
      rw [tc_s, tc_s]
      rw [sumN_cong (g := fun _ => sumN (fun c => tc k r (u + 1) f (updN col u c)) k) (fun c' _ => ?_), sumN_const]
      rw [tc_swap k (fun c col => f (updN col u c)) k r (u + 1)]
      apply sumN_cong
      intro c _
      rw [tc_ov k f u c r (u + 1) _ (by omega), upd_over]
    · rw [tc_s, tc_s, sumN_cong (g := fun c => k * tc k r (dot + 1) f (updN col dot c)) (fun c _ => tc_upd k f u r (dot + 1) _ (by omega) (by omega)), sumN_mulc]
theorem tc_mono {k : Nat} (f : (Nat → Nat) → Nat) : ∀ (r dot : Nat) (col : Nat → Nat), tc k r dot f col ≤ tc (k + 1) r dot f col
  | 0, _, _ => Nat.le_refl _
  | r + 1, dot, col => by
    rw [tc_s, tc_s, sumN_s]
    have h : ∀ m, sumN (fun c => tc k r (dot + 1) f (updN col dot c)) m ≤ sumN (fun c => tc (k + 1) r (dot + 1) f (updN col dot c)) m := by
      intro m
      induction m with
      | zero => exact Nat.le_refl _
      | succ m ih =>
        have := tc_mono (k := k) f r (dot + 1) (updN col dot m)
        rw [sumN_s, sumN_s]
        omega
    have := h k
    omega
def prL (L : List (Nat × Nat)) (col : Nat → Nat) : Prop := ∀ e, e ∈ L → col e.1 ≠ col e.2
noncomputable def iv (P : Prop) : Nat := if bP P then 1 else 0
theorem iv_t {P : Prop} (h : P) : iv P = 1 := by unfold iv; rw [bP_t h]; rfl
theorem iv_f {P : Prop} (h : ¬ P) : iv P = 0 := by unfold iv; rw [bP_f h]; rfl
theorem iv_cong {P Q : Prop} (h : P ↔ Q) : iv P = iv Q := by unfold iv; rw [bP_cong h]
noncomputable def cL (k : Nat) (L : List (Nat × Nat)) : Nat := tc k 6 0 (fun col => iv (prL L col)) (fun _ => 0)
theorem sum_at {a c0 : Nat} : ∀ {k : Nat}, c0 < k → sumN (fun c => if c = c0 then a else 0) k = a
  | 0, h => absurd h (Nat.not_lt_zero _)
  | k + 1, h => by
    rw [sumN_s]
    by_cases e : k = c0
    · subst e
      rw [if_pos rfl, sumN_0 (fun i hi => if_neg (by omega)), Nat.zero_add]
    · rw [if_neg e, sum_at (by omega), Nat.add_zero]
theorem upd_mg {col : Nat → Nat} {u v : Nat} : updN col u (col v) = fun x => col (mg rid u v x) := by
  funext x
  rw [mg_ri]
  unfold updN
  split <;> rfl
theorem prL_mp (u v : Nat) (M : List (Nat × Nat)) (col : Nat → Nat) : prL M (fun x => col (mg rid u v x)) ↔ prL (mp u v M) col := by
  unfold prL mp
  constructor
  · intro h e he
    obtain ⟨f, hf, rfl⟩ := List.mem_map.mp he
    exact h f hf
  · intro h e he
    exact h _ (List.mem_map.mpr ⟨e, he, rfl⟩)
theorem col_cut (k u v : Nat) (M : List (Nat × Nat)) (huv : u ≠ v) (hu : u < 6) (hv : v < 6) : k * cL k M = k * cL k ((u, v) :: M) + cL k (mp u v M) := by
  have h1 : cL k M = cL k ((u, v) :: M) + tc k 6 0 (fun col => iv (prL M col ∧ col u = col v)) (fun _ => 0) := by
    unfold cL
    rw [← tc_add]
    refine tc_cong 6 0 _ (fun x hx => absurd hx (Nat.not_lt_zero x)) (fun col _ => ?_)
    by_cases c : prL M col
    · by_cases c2 : col u = col v
      · rw [iv_t c, iv_f (P := prL ((u, v) :: M) col) (fun z => z (u, v) List.mem_cons_self c2), iv_t (P := prL M col ∧ col u = col v) ⟨c, c2⟩]
      · rw [iv_t c, iv_t (P := prL ((u, v) :: M) col) (fun e he => by
          rcases List.mem_cons.mp he with z | z
          · rw [z]; exact c2
          · exact c e z), iv_f (P := prL M col ∧ col u = col v) (fun z => c2 z.2)]
    · rw [iv_f c, iv_f (P := prL ((u, v) :: M) col) (fun z => c (fun e he => z e (List.mem_cons_of_mem _ he))), iv_f (P := prL M col ∧ col u = col v) (fun z => c z.1)]
  have h2 : cL k (mp u v M) = k * tc k 6 0 (fun col => iv (prL M col ∧ col u = col v)) (fun _ => 0) := by
    rw [← tc_upd k (fun col => iv (prL M col ∧ col u = col v)) u 6 0 _ (Nat.zero_le u) (by omega)]
    unfold cL
    refine tc_cong 6 0 _ (fun x hx => absurd hx (Nat.not_lt_zero x)) (fun col hcol => ?_)
    have hcv := hcol v (by omega)
    rw [sumN_cong (g := fun c => if c = col v then iv (prL (mp u v M) col) else 0) (fun c _ => ?_), sum_at hcv]
    have e1 : updN col u c u = c := by unfold updN; rw [if_pos rfl]
    have e2 : updN col u c v = col v := by unfold updN; rw [if_neg (fun z => huv z.symm)]
    rw [e1, e2]
    by_cases c3 : c = col v
    · rw [if_pos c3]
      subst c3
      rw [upd_mg]
      apply iv_cong
      rw [prL_mp]
      exact ⟨fun z => z.1, fun z => ⟨z, rfl⟩⟩
    · rw [if_neg c3, iv_f]
      exact fun z => c3 z.2
  rw [h1, h2, Nat.mul_add]
theorem col_sum {k : Nat} (hk : 0 < k) {L : List (Nat × Nat)} (h6 : in6 L) : (cL k L : Int) = tT (k : Int) L rid 1 6 := by
  refine dc_all (k : Int) (by omega) (fun L => (cL k L : Int)) ?_ (fun u M => ?_) (fun u v M huv hu hv => ?_) h6
  · have : cL k [] = k ^ 6 := by
      unfold cL
      rw [← tc_one k 6 0 (fun _ => 0)]
      exact tc_cong 6 0 _ (fun x hx => absurd hx (Nat.not_lt_zero x)) (fun col _ => iv_t (fun e he => by cases he))
    rw [this, Int.natCast_pow]
  · have : cL k ((u, u) :: M) = 0 := by
      unfold cL
      exact (tc_cong 6 0 _ (fun x hx => absurd hx (Nat.not_lt_zero x)) (fun col _ => iv_f (P := prL ((u, u) :: M) col) (fun z => z (u, u) List.mem_cons_self rfl))).trans (tc_zero k 6 0 _)
    rw [this]
    rfl
  · have h := col_cut k u v M huv hu hv
    have h' : (k : Int) * (cL k M : Int) = (k : Int) * (cL k ((u, v) :: M) : Int) + (cL k (mp u v M) : Int) := by exact_mod_cast h
    rw [Int.mul_comm (cL k ((u, v) :: M) : Int), Int.mul_comm (cL k M : Int)]
    omega
/-- the count of the house -/
theorem tc_bad (c g : Nat) : ∀ (r dot : Nat) (col : Nat → Nat), dot + r = 6 → (∃ a b, a < dot ∧ b < dot ∧ ad g a b = true ∧ col a = col b) → tc c r dot (fun col => if prP g col then 1 else 0) col = 0
  | 0, dot, col, hd, h => by
    obtain ⟨a, b, ha, hb, h1, h2⟩ := h
    show (if prP g col then 1 else 0) = 0
    rw [show prP g col = false from bP_f (fun z => z a b (by omega) (by omega) h1 h2)]
    rfl
  | r + 1, dot, col, hd, h => by
    obtain ⟨a, b, ha, hb, h1, h2⟩ := h
    rw [tc_s]
    apply sumN_0
    intro k _
    refine tc_bad c g r (dot + 1) _ (by omega) ⟨a, b, by omega, by omega, h1, ?_⟩
    unfold updN
    rw [if_neg (by omega), if_neg (by omega)]
    exact h2
theorem cc_tc (c g : Nat) (hs : Sy g) : ∀ (r dot : Nat) (col : Nat → Nat), dot + r = 6 → (∀ a b, a < dot → b < dot → ad g a b = true → col a ≠ col b) → cc c g r dot col = tc c r dot (fun col => if prP g col then 1 else 0) col
  | 0, dot, col, hd, h => by
    show 1 = if prP g col then 1 else 0
    rw [show prP g col = true from bP_t (fun a b ha hb => h a b (by omega) (by omega))]
    rfl
  | r + 1, dot, col, hd, h => by
    rw [cc_s, tc_s]
    apply sumN_cong
    intro k _
    have e1 : updN col dot k dot = k := by unfold updN; rw [if_pos rfl]
    have e2 : ∀ a, a < dot → updN col dot k a = col a := fun a ha => by unfold updN; rw [if_neg (by omega)]
    by_cases ok : okC g dot col k
    · rw [if_pos (bP_t ok)]
      refine cc_tc c g hs r (dot + 1) _ (by omega) (fun a b ha hb hab => ?_)
      by_cases ea : a = dot
      · by_cases eb : b = dot
        · subst ea
          subst eb
          exact absurd rfl (hs.2 b b (by omega) (by omega) hab).2
        · subst ea
          rw [e1, e2 b (by omega)]
          exact fun z => ok b (by omega) hab z.symm
      · by_cases eb : b = dot
        · subst eb
          rw [e1, e2 a (by omega)]
          exact ok a (by omega) (hs.2 a b (by omega) (by omega) hab).1
        · rw [e2 a (by omega), e2 b (by omega)]
          exact h a b (by omega) (by omega) hab
    · rw [if_neg (by rw [bP_f ok]; decide)]
      obtain ⟨j, hj⟩ := Classical.not_forall.mp ok
      have hj1 : j < dot ∧ ad g dot j = true ∧ col j = k := by
        refine ⟨?_, ?_, ?_⟩
        · exact Classical.byContradiction (fun z => hj (fun w => absurd w z))
        · exact Classical.byContradiction (fun z => hj (fun _ w => absurd w z))
        · exact Classical.byContradiction (fun z => hj (fun _ _ => z))
      refine (tc_bad c g r (dot + 1) _ (by omega) ⟨dot, j, by omega, by omega, hj1.2.1, ?_⟩).symm
      rw [e1, e2 j hj1.1, hj1.2.2]
theorem cc_cL {L : List (Nat × Nat)} {g : Nat} (hr : Rep L g) (c : Nat) : cc c g 6 0 (fun _ => 0) = cL c L := by
  obtain ⟨hs, hl, ha⟩ := hr
  rw [cc_tc c g hs 6 0 _ (by omega) (fun a b h => absurd h (Nat.not_lt_zero a))]
  unfold cL
  refine tc_cong 6 0 _ (fun x hx => absurd hx (Nat.not_lt_zero x)) (fun col _ => ?_)
  unfold iv prP
  rw [bP_cong]
  constructor
  · intro h e he
    obtain ⟨h1, h2, -⟩ := hl e he
    exact h e.1 e.2 h1 h2 ((ha e.1 e.2 h1 h2).mpr (Or.inl he))
  · intro h a b h1 h2 hab
    rcases (ha a b h1 h2).mp hab with z | z
    · exact h _ z
    · exact fun w => h _ z w.symm
theorem cc_mono (c g : Nat) (hs : Sy g) : cc c g 6 0 (fun _ => 0) ≤ cc (c + 1) g 6 0 (fun _ => 0) := by
  rw [cc_tc c g hs 6 0 _ (by omega) (fun a b h => absurd h (Nat.not_lt_zero a)), cc_tc (c + 1) g hs 6 0 _ (by omega) (fun a b h => absurd h (Nat.not_lt_zero a))]
  exact tc_mono _ 6 0 _
theorem Rep_in6 {L : List (Nat × Nat)} {g : Nat} (hr : Rep L g) : in6 L := fun e he => ⟨(hr.2.1 e he).1, (hr.2.1 e he).2.1⟩
end DC
