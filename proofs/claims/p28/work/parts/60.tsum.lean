/-! ===== the sum over all sets of EDGES ===== -/
section TS
def mg (g : Nat → Nat) (u v x : Nat) : Nat := if g x = g u then g v else g x
def ff (P : Prop) [Decidable P] : Int := if P then 0 else 1
def tT (q : Int) : List (Nat × Nat) → (Nat → Nat) → Int → Int → Int
  | [], _, s, p => s * q ^ p.toNat
  | e :: L, g, s, p => tT q L g s p + tT q L (mg g e.1 e.2) (-s) (p - ff (g e.1 = g e.2))
theorem tT_c (q : Int) (e : Nat × Nat) (L : List (Nat × Nat)) (g : Nat → Nat) (s p : Int) : tT q (e :: L) g s p = tT q L g s p + tT q L (mg g e.1 e.2) (-s) (p - ff (g e.1 = g e.2)) := rfl
def ker (g h : Nat → Nat) : Prop := ∀ x y, g x = g y ↔ h x = h y
theorem mg_ker (g : Nat → Nat) (u v x y : Nat) : mg g u v x = mg g u v y ↔ g x = g y ∨ ((g x = g u ∨ g x = g v) ∧ (g y = g u ∨ g y = g v)) := by
  unfold mg
  generalize g x = a
  generalize g y = b
  generalize g u = c
  generalize g v = d
  split <;> split <;> omega
theorem ker_mg {g h : Nat → Nat} (k : ker g h) (u v : Nat) : ker (mg g u v) (mg h u v) := by
  intro x y
  rw [mg_ker, mg_ker, k x y, k x u, k x v, k y u, k y v]
theorem ker_rf (g : Nat → Nat) : ker g g := fun _ _ => Iff.rfl
theorem ff_cong {P Q : Prop} [Decidable P] [Decidable Q] (h : P ↔ Q) : ff P = ff Q := by
  unfold ff
  by_cases c : P
  · rw [if_pos c, if_pos (h.mp c)]
  · rw [if_neg c, if_neg (fun z => c (h.mpr z))]
theorem tT_k (q : Int) : ∀ (L : List (Nat × Nat)) {g h : Nat → Nat} (s p : Int), ker g h → tT q L g s p = tT q L h s p
  | [], _, _, _, _, _ => rfl
  | e :: L, g, h, s, p, k => by
    rw [tT_c, tT_c, tT_k q L s p k, tT_k q L (-s) _ (ker_mg k e.1 e.2), ff_cong (k e.1 e.2)]
theorem tT_n (q : Int) : ∀ (L : List (Nat × Nat)) (g : Nat → Nat) (s p : Int), tT q L g (-s) p = -tT q L g s p
  | [], _, s, p => Int.neg_mul _ _
  | e :: L, g, s, p => by
    rw [tT_c, tT_c, tT_n q L g s p, tT_n q L _ (-s), Int.neg_add]
theorem ker_flip (g : Nat → Nat) (u v : Nat) : ker (mg g u v) (mg g v u) := by
  intro x y
  rw [mg_ker, mg_ker]
  generalize g x = a
  generalize g y = b
  generalize g u = c
  generalize g v = d
  omega
theorem tT_flip (q : Int) (u v : Nat) (L : List (Nat × Nat)) (g : Nat → Nat) (s p : Int) : tT q ((u, v) :: L) g s p = tT q ((v, u) :: L) g s p := by
  rw [tT_c, tT_c]
  dsimp only
  rw [tT_k q L _ _ (ker_flip g u v), ff_cong (P := g u = g v) (Q := g v = g u) ⟨Eq.symm, Eq.symm⟩]
theorem mg_up (g : Nat → Nat) (u v : Nat) {x y : Nat} (h : g x = g y) : mg g u v x = mg g u v y := (mg_ker g u v x y).mpr (Or.inl h)
theorem mg_uv (g : Nat → Nat) (u v : Nat) : mg g u v u = mg g u v v := (mg_ker g u v u v).mpr (Or.inr ⟨Or.inl rfl, Or.inr rfl⟩)
theorem mg_le {g h : Nat → Nat} {u v : Nat} (h1 : ∀ x y, g x = g y → h x = h y) (h2 : h u = h v) (x y : Nat) (e : mg g u v x = mg g u v y) : h x = h y := by
  rcases (mg_ker g u v x y).mp e with z | ⟨z1, z2⟩
  · exact h1 x y z
  · have e1 : h x = h u := z1.elim (fun z => h1 _ _ z) (fun z => (h1 _ _ z).trans h2.symm)
    have e2 : h y = h u := z2.elim (fun z => h1 _ _ z) (fun z => (h1 _ _ z).trans h2.symm)
    exact e1.trans e2.symm
theorem ker_sw1 (g : Nat → Nat) (a b c d x y : Nat) (e : mg (mg g a b) c d x = mg (mg g a b) c d y) : mg (mg g c d) a b x = mg (mg g c d) a b y := by
  refine mg_le (g := mg g a b) (fun x y h => ?_) ?_ x y e
  · exact mg_le (g := g) (fun x y h => mg_up _ a b (mg_up g c d h)) (mg_uv _ a b) x y h
  · exact mg_up _ a b (mg_uv g c d)
theorem ker_swap (g : Nat → Nat) (a b c d : Nat) : ker (mg (mg g a b) c d) (mg (mg g c d) a b) := fun x y => ⟨ker_sw1 g a b c d x y, ker_sw1 g c d a b x y⟩
theorem ff_swap (g : Nat → Nat) (a b c d : Nat) : ff (g a = g b) + ff (mg g a b c = mg g a b d) = ff (g c = g d) + ff (mg g c d a = mg g c d b) := by
  rw [ff_cong (mg_ker g a b c d), ff_cong (mg_ker g c d a b)]
  generalize g a = a
  generalize g b = b
  generalize g c = c
  generalize g d = d
  unfold ff
  split <;> split <;> split <;> split <;> omega
theorem tT_swap (q : Int) (e f : Nat × Nat) (L : List (Nat × Nat)) (g : Nat → Nat) (s p : Int) : tT q (e :: f :: L) g s p = tT q (f :: e :: L) g s p := by
  rw [tT_c, tT_c, tT_c, tT_c, tT_c, tT_c]
  rw [tT_k q L _ _ (ker_swap g e.1 e.2 f.1 f.2)]
  have h := ff_swap g e.1 e.2 f.1 f.2
  have e1 : p - ff (g e.1 = g e.2) - ff (mg g e.1 e.2 f.1 = mg g e.1 e.2 f.2) = p - ff (g f.1 = g f.2) - ff (mg g f.1 f.2 e.1 = mg g f.1 f.2 e.2) := by omega
  rw [e1]
  omega
theorem tT_dup (q : Int) (e : Nat × Nat) (L : List (Nat × Nat)) (g : Nat → Nat) (s p : Int) : tT q (e :: e :: L) g s p = tT q (e :: L) g s p := by
  rw [tT_c]
  have h : tT q (e :: L) (mg g e.1 e.2) (-s) (p - ff (g e.1 = g e.2)) = 0 := by
    rw [tT_c]
    have hl : mg g e.1 e.2 e.1 = mg g e.1 e.2 e.2 := by
      rw [mg_ker]
      exact Or.inr ⟨Or.inl rfl, Or.inr rfl⟩
    have hk : ker (mg (mg g e.1 e.2) e.1 e.2) (mg g e.1 e.2) := by
      intro x y
      rw [mg_ker]
      constructor
      · rintro (h | ⟨h1, h2⟩)
        · exact h
        · have h1' : mg g e.1 e.2 x = mg g e.1 e.2 e.1 := h1.elim id (fun z => z.trans hl.symm)
          have h2' : mg g e.1 e.2 y = mg g e.1 e.2 e.1 := h2.elim id (fun z => z.trans hl.symm)
          exact h1'.trans h2'.symm
      · exact Or.inl
    have hf : ff (mg g e.1 e.2 e.1 = mg g e.1 e.2 e.2) = 0 := by unfold ff; rw [if_pos hl]
    rw [tT_k q L _ _ hk, hf, Int.sub_zero, tT_n q L _ (-s)]
    omega
  rw [h, Int.add_zero]
theorem tT_perm (q : Int) {L M : List (Nat × Nat)} (h : L.Perm M) : ∀ (g : Nat → Nat) (s p : Int), tT q L g s p = tT q M g s p := by
  induction h with
  | nil => intro g s p; rfl
  | cons e _ ih => intro g s p; rw [tT_c, tT_c, ih, ih]
  | swap e f L => intro g s p; exact tT_swap q f e L g s p
  | trans _ _ ih1 ih2 => intro g s p; rw [ih1, ih2]
/-- the edge is there, one way or the other -/
def inE (e : Nat × Nat) (L : List (Nat × Nat)) : Prop := e ∈ L ∨ (e.2, e.1) ∈ L
theorem tT_abs (q : Int) : ∀ (L : List (Nat × Nat)) (e : Nat × Nat), inE e L → ∀ (g : Nat → Nat) (s p : Int), tT q (e :: L) g s p = tT q L g s p
  | [], e, h, g, s, p => by rcases h with h | h <;> cases h
  | f :: L, e, h, g, s, p => by
    by_cases c : e = f
    · subst c; exact tT_dup q e L g s p
    · by_cases c2 : (e.2, e.1) = f
      · subst c2
        have := tT_flip q e.1 e.2 ((e.2, e.1) :: L) g s p
        rw [show (e.1, e.2) = e from rfl] at this
        rw [this]
        exact tT_dup q _ L g s p
      · have h' : inE e L := by
          rcases h with h | h
          · rcases List.mem_cons.mp h with z | z
            · exact absurd z c
            · exact Or.inl z
          · rcases List.mem_cons.mp h with z | z
            · exact absurd z c2
            · exact Or.inr z
        rw [tT_swap, tT_c, tT_abs q L e h', tT_abs q L e h', ← tT_c]
theorem tT_absA (q : Int) (L : List (Nat × Nat)) (g : Nat → Nat) (s p : Int) : ∀ (M : List (Nat × Nat)), (∀ e, e ∈ M → inE e L) → tT q (M ++ L) g s p = tT q L g s p
  | [], _ => rfl
  | e :: M, h => by
    rw [List.cons_append, tT_abs q (M ++ L) e, tT_absA q L g s p M (fun f hf => h f (List.mem_cons_of_mem _ hf))]
    rcases h e (List.mem_cons_self) with z | z
    · exact Or.inl (List.mem_append_right _ z)
    · exact Or.inr (List.mem_append_right _ z)
theorem tT_set (q : Int) {L M : List (Nat × Nat)} (h1 : ∀ e, e ∈ M → inE e L) (h2 : ∀ e, e ∈ L → inE e M) (g : Nat → Nat) (s p : Int) : tT q L g s p = tT q M g s p := by
  rw [← tT_absA q L g s p M h1, ← tT_absA q M g s p L h2]
  exact tT_perm q List.perm_append_comm g s p
theorem tT_map (q : Int) (φ : Nat → Nat) : ∀ (L : List (Nat × Nat)) (g : Nat → Nat) (s p : Int), tT q L (fun x => g (φ x)) s p = tT q (L.map (fun e => (φ e.1, φ e.2))) g s p
  | [], _, _, _ => rfl
  | e :: L, g, s, p => by
    rw [List.map_cons, tT_c, tT_c, tT_map q φ L g s p, ← tT_map q φ L (mg g (φ e.1) (φ e.2))]
    rfl
/-- one by one over all sets, the lowest EDGE first -/
def tV (q : Int) : List (Nat × Nat) → (Nat → Nat) → Int → Int → Nat → Int
  | [], _, s, p, _ => s * q ^ p.toNat
  | e :: L, g, s, p, x => if x % 2 = 1 then tV q L (mg g e.1 e.2) (-s) (p - ff (g e.1 = g e.2)) (x / 2) else tV q L g s p (x / 2)
theorem sumI_cong {f g : Nat → Int} : ∀ {n : Nat}, (∀ i, i < n → f i = g i) → sumI f n = sumI g n
  | 0, _ => rfl
  | n + 1, h => by rw [sumI_s, sumI_s, sumI_cong (fun i hi => h i (by omega)), h n (by omega)]
theorem sumI_two (f : Nat → Int) : ∀ n, sumI f (2 * n) = sumI (fun i => f (2 * i)) n + sumI (fun i => f (2 * i + 1)) n
  | 0 => rfl
  | n + 1 => by
    rw [show 2 * (n + 1) = 2 * n + 1 + 1 by omega, sumI_s, sumI_s, sumI_two f n, sumI_s, sumI_s]
    omega
theorem tV_sum (q : Int) : ∀ (L : List (Nat × Nat)) (g : Nat → Nat) (s p : Int), sumI (tV q L g s p) (2 ^ L.length) = tT q L g s p
  | [], _, s, p => by
    show 0 + s * q ^ p.toNat = s * q ^ p.toNat
    omega
  | e :: L, g, s, p => by
    rw [List.length_cons, Nat.pow_succ, Nat.mul_comm, sumI_two, tT_c, ← tV_sum q L g s p, ← tV_sum q L (mg g e.1 e.2)]
    congr 1
    · apply sumI_cong
      intro i _
      show (if 2 * i % 2 = 1 then _ else tV q L g s p (2 * i / 2)) = _
      rw [if_neg (by omega), show 2 * i / 2 = i by omega]
    · apply sumI_cong
      intro i _
      show (if (2 * i + 1) % 2 = 1 then tV q L (mg g e.1 e.2) (-s) (p - ff (g e.1 = g e.2)) ((2 * i + 1) / 2) else _) = _
      rw [if_pos (by omega), show (2 * i + 1) / 2 = i by omega]
end TS

