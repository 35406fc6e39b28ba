/-! ===== directions without rings ===== -/
section DR
abbrev RT : Type := Nat → Nat → Prop
def ledR (T : RT) (u v : Nat) : RT := fun x y => T x y ∨ ((x = u ∨ T x u) ∧ (y = v ∨ T v y))
def trR (T : RT) : Prop := ∀ x y z, T x y → T y z → T x z
def irR (T : RT) : Prop := ∀ x, ¬ T x x
theorem led_tr {T : RT} (h : trR T) (u v : Nat) : trR (ledR T u v) := by
  rintro x y z (a | ⟨a1, a2⟩) (b | ⟨b1, b2⟩)
  · exact Or.inl (h x y z a b)
  · refine Or.inr ⟨?_, b2⟩
    rcases b1 with e | e
    · rw [← e]; exact Or.inr a
    · exact Or.inr (h x y u a e)
  · refine Or.inr ⟨a1, ?_⟩
    rcases a2 with e | e
    · rw [← e]; exact Or.inr b
    · exact Or.inr (h v y z e b)
  · exact Or.inr ⟨a1, b2⟩
theorem led_le {T R : RT} (hR : trR R) {u v : Nat} (h1 : ∀ x y, T x y → R x y) (h2 : R u v) (x y : Nat) (h : ledR T u v x y) : R x y := by
  rcases h with h | ⟨a, b⟩
  · exact h1 x y h
  · have hx : R x v := by
      rcases a with e | e
      · rw [e]; exact h2
      · exact hR x u v (h1 _ _ e) h2
    rcases b with e | e
    · rw [e]; exact hx
    · exact hR x v y hx (h1 _ _ e)
theorem led_up {T : RT} {u v x y : Nat} (h : T x y) : ledR T u v x y := Or.inl h
theorem led_uv (T : RT) (u v : Nat) : ledR T u v u v := Or.inr ⟨Or.inl rfl, Or.inl rfl⟩
theorem led_c1 {T : RT} (h : trR T) (a b c d x y : Nat) (e : ledR (ledR T a b) c d x y) : ledR (ledR T c d) a b x y :=
  led_le (T := ledR T a b) (led_tr (led_tr h c d) a b) (fun x y z => led_le (T := T) (led_tr (led_tr h c d) a b) (fun x y z => led_up (led_up z)) (led_uv _ a b) x y z) (led_up (led_uv T c d)) x y e
theorem led_comm {T : RT} (h : trR T) (a b c d : Nat) : ledR (ledR T a b) c d = ledR (ledR T c d) a b := by
  funext x y
  exact propext ⟨led_c1 h a b c d x y, led_c1 h c d a b x y⟩
noncomputable def irB (T : RT) : Bool := bP (irR T)
noncomputable def aT : List (Nat × Nat) → RT → Nat
  | [], T => if irB T then 1 else 0
  | e :: L, T => aT L (ledR T e.1 e.2) + aT L (ledR T e.2 e.1)
theorem aT_c (e : Nat × Nat) (L : List (Nat × Nat)) (T : RT) : aT (e :: L) T = aT L (ledR T e.1 e.2) + aT L (ledR T e.2 e.1) := rfl
theorem aT_swap (e f : Nat × Nat) (L : List (Nat × Nat)) {T : RT} (h : trR T) : aT (e :: f :: L) T = aT (f :: e :: L) T := by
  rw [aT_c, aT_c, aT_c, aT_c, aT_c, aT_c, led_comm h e.1 e.2 f.1 f.2, led_comm h e.1 e.2 f.2 f.1, led_comm h e.2 e.1 f.1 f.2, led_comm h e.2 e.1 f.2 f.1]
  omega
theorem aT_perm {L M : List (Nat × Nat)} (h : L.Perm M) : ∀ (T : RT), trR T → aT L T = aT M T := by
  induction h with
  | nil => intro T _; rfl
  | cons e _ ih => intro T ht; rw [aT_c, aT_c, ih _ (led_tr ht _ _), ih _ (led_tr ht _ _)]
  | swap e f L => intro T ht; exact aT_swap f e L ht
  | trans _ _ ih1 ih2 => intro T ht; rw [ih1 T ht, ih2 T ht]
theorem aT_flip (u v : Nat) (L : List (Nat × Nat)) (T : RT) : aT ((u, v) :: L) T = aT ((v, u) :: L) T := by
  rw [aT_c, aT_c]
  exact Nat.add_comm _ _
theorem aT_0 : ∀ (L : List (Nat × Nat)) {T : RT} {x : Nat}, T x x → aT L T = 0
  | [], T, x, h => by
    show (if irB T then 1 else 0) = 0
    rw [show irB T = false from bP_f (fun z => z x h)]
    rfl
  | e :: L, T, x, h => by rw [aT_c, aT_0 L (led_up h), aT_0 L (led_up h)]
theorem led_ir {T : RT} (hi : irR T) (ht : trR T) {u v : Nat} (huv : u ≠ v) (h : ¬ T v u) : irR (ledR T u v) := by
  rintro x (a | ⟨a, b⟩)
  · exact hi x a
  · rcases a with a | a
    · rcases b with b | b
      · omega
      · rw [a] at b; exact h b
    · rcases b with b | b
      · rw [b] at a; exact h a
      · exact h (ht v x u b a)
/-- the numbers that the class keeps -/
def TR (D : Nat) (T : RT) : Prop := D < 2 ^ 36 ∧ ∀ x y, x < 6 → y < 6 → (ad D x y = true ↔ T x y)
theorem sh_ad {g t x y : Nat} (hg : g < 64) (hy : y < 6) : ad (g * 2 ^ (6 * t)) x y = (decide (x = t) && g.testBit y) := by
  have h := tb_add (d := 0) (y := g) (w := 6 * t) (Nat.two_pow_pos _) (6 * x + y)
  rw [Nat.zero_add, Nat.mul_comm] at h
  unfold ad
  rw [h]
  rcases Nat.lt_trichotomy x t with c | c | c
  · rw [if_pos (by omega), Nat.zero_testBit, decide_eq_false (by omega), Bool.false_and]
  · subst c
    rw [if_neg (by omega), decide_eq_true rfl, Bool.true_and, show 6 * x + y - 6 * x = y by omega]
  · rw [if_neg (by omega), decide_eq_false (by omega), Bool.false_and]
    exact Nat.testBit_lt_two_pow (Nat.lt_of_lt_of_le hg (show 2 ^ 6 ≤ 2 ^ (6 * x + y - 6 * t) from Nat.pow_le_pow_right (by omega) (by omega)))
theorem sh_lt {g t : Nat} (hg : g < 64) (ht : t < 6) : g * 2 ^ (6 * t) < 2 ^ 36 := by
  have h1 : g * 2 ^ (6 * t) < 64 * 2 ^ (6 * t) := Nat.mul_lt_mul_of_pos_right hg (Nat.two_pow_pos _)
  have h2 : 64 * 2 ^ (6 * t) = 2 ^ (6 + 6 * t) := by rw [Nat.pow_add]
  have h3 : 2 ^ (6 + 6 * t) ≤ 2 ^ 36 := Nat.pow_le_pow_right (by omega) (by omega)
  omega
variable {N : Nat} {U V : Nat → Nat} {d1 d2 : Nat → Int32} {m g : Nat}
theorem c_led (hN : 70000 ≤ N) {D : Nat} {T : RT} (h : TR D T) {u v : Nat} (hu : u < 6) (hv : v < 6) : ∃ D', TR D' (ledR T u v) ∧ fX0_led N (lN D) (nI u) (nI v) = some (lN D') := by
  obtain ⟨hD, hT⟩ := h
  have hr := rowN_lt D v
  have hg64 : rowN D v ||| 2 ^ v < 2 ^ 6 := Nat.or_lt_two_pow (by omega) (Nat.pow_lt_pow_right (by omega) hv)
  have hgb : ∀ y, y < 6 → ((rowN D v ||| 2 ^ v).testBit y = true ↔ (y = v ∨ T v y)) := by
    intro y hy
    rw [Nat.testBit_or, Nat.testBit_two_pow, rowN_t, decide_eq_true hy, Bool.true_and, Bool.or_eq_true, decide_eq_true_eq, hT v y hv hy]
    exact ⟨fun z => z.elim Or.inr (fun e => Or.inl e.symm), fun z => z.elim (fun e => Or.inr e.symm) Or.inl⟩
  obtain ⟨gn, hgn⟩ : ∃ gn, gn = rowN D v ||| 2 ^ v := ⟨_, rfl⟩
  rw [← hgn] at hg64 hgb
  have hnext : ∀ t s, t < 6 → (s < 2 ^ 36 ∧ ∀ x y, x < 6 → y < 6 → (ad s x y = true ↔ T x y ∨ (x < t ∧ (x = u ∨ T x u) ∧ (y = v ∨ T v y)))) → (t = u ∨ T t u) → s ||| gn * 2 ^ (6 * t) < 2 ^ 36 ∧ ∀ x y, x < 6 → y < 6 → (ad (s ||| gn * 2 ^ (6 * t)) x y = true ↔ T x y ∨ (x < t + 1 ∧ (x = u ∨ T x u) ∧ (y = v ∨ T v y))) := by
    rintro t s ht ⟨h1, h2⟩ hc
    refine ⟨Nat.or_lt_two_pow h1 (sh_lt (by omega) ht), fun x y hx hy => ?_⟩
    rw [ad_or, sh_ad (by omega) hy, Bool.or_eq_true, Bool.and_eq_true, decide_eq_true_eq, h2 x y hx hy, hgb y hy]
    constructor
    · rintro ((z | ⟨z1, z2⟩) | ⟨z1, z2⟩)
      · exact Or.inl z
      · exact Or.inr ⟨by omega, z2⟩
      · exact Or.inr ⟨by omega, by rw [z1]; exact hc, z2⟩
    · rintro (z | ⟨z1, z2⟩)
      · exact Or.inl (Or.inl z)
      · by_cases c : x = t
        · exact Or.inr ⟨c, z2.2⟩
        · exact Or.inl (Or.inr ⟨by omega, z2⟩)
  rw [fX0_led.eq_1, c_row N hD hv, bd_s, m_bit N (by omega), bd_s, nI_or, ← hgn]
  obtain ⟨s, ⟨h1, h2⟩, e⟩ := loop_ex (fun f t (s : Nat) => fX0_led_b18 N (lN D) (nI u) (nI gn) f (lN s) (nI t)) (fun s => some (lN s)) 6
    (fun t s => s < 2 ^ 36 ∧ ∀ x y, x < 6 → y < 6 → (ad s x y = true ↔ T x y ∨ (x < t ∧ (x = u ∨ T x u) ∧ (y = v ∨ T v y))))
    (fun f s _ => by rw [fX0_led_b18.eq_2, if_pos (by decide)])
    (fun f t s ht hp => by
      have hlt := rowN_lt D t
      rw [fX0_led_b18.eq_2, if_neg (show ¬ (6 : Int32) ≤ nI t from nI_nle' (b := 6) (by omega) ht), six_mul t ht, ln_nI (by omega), ln_shl gn (by omega), ln_or, nm_s, nI_1, c_row N hD ht, bd_s, m_isIn N (by omega) (by omega), bd_s]
      by_cases c : t = u
      · rw [if_pos (by rw [c])]
        exact ⟨_, hnext t s ht hp (Or.inl c), rfl⟩
      · rw [if_neg (by rw [nI_eq (by omega) (by omega)]; exact c)]
        have hb : (rowN D t).testBit u = ad D t u := by rw [rowN_t, decide_eq_true hu, Bool.true_and]
        rw [hb]
        rcases hv' : ad D t u with _ | _
        · rw [if_pos b01f]
          have hno : ¬ T t u := fun z => by rw [(hT t u ht hu).mpr z] at hv'; cases hv'
          refine ⟨s, ⟨hp.1, fun x y hx hy => ?_⟩, rfl⟩
          rw [hp.2 x y hx hy]
          constructor
          · rintro (z | ⟨z1, z2⟩)
            · exact Or.inl z
            · exact Or.inr ⟨by omega, z2⟩
          · rintro (z | ⟨z1, z2⟩)
            · exact Or.inl z
            · by_cases cx : x = t
              · exfalso
                subst cx
                exact z2.1.elim c hno
              · exact Or.inr ⟨by omega, z2⟩
        · rw [if_neg b01t]
          exact ⟨_, hnext t s ht hp (Or.inr ((hT t u ht hu).mp hv')), rfl⟩)
    6 N 0 D (by omega) (by omega) ⟨hD, fun x y hx hy => by
      rw [hT x y hx hy]
      exact ⟨Or.inl, fun z => z.elim id (fun w => by omega)⟩⟩
  refine ⟨s, ⟨h1, fun x y hx hy => ?_⟩, e⟩
  rw [h2 x y hx hy]
  unfold ledR
  exact ⟨fun z => z.elim Or.inl (fun w => Or.inr w.2), fun z => z.elim Or.inl (fun w => Or.inr ⟨hx, w⟩)⟩
def PD (L : List (Nat × Nat)) : Prop := L.Pairwise (fun e f => f ≠ e ∧ f ≠ (e.2, e.1))
theorem PD_perm {L M : List (Nat × Nat)} (p : L.Perm M) (h : PD L) : PD M := by
  unfold PD at *
  refine (p.pairwise_iff (fun {e f} h => ?_)).mp h
  refine ⟨fun z => h.1 z.symm, fun z => h.2 ?_⟩
  rw [z]
theorem z0a (v : Nat) : (0 : Int32) + nI v = nI v := by rw [show (0 : Int32) = nI 0 from rfl, nI_add, Nat.zero_add]
theorem c_dir (hN : 70000 ≤ N) : ∀ (d : Nat) (L : List (Nat × Nat)) (g k D : Nat) (T : RT), Rep L g → PD L → L.length + k ≤ 15 → L.length < d → TR D T → trR T → irR T → fX0_directed N d (lN g) (nI k) (lN D) = some (nI (aT L T))
  | 0, _, _, _, _, _, _, _, _, h, _, _, _ => absurd h (Nat.not_lt_zero _)
  | d + 1, L, g, k, D, T, hr, hpd, hk, hd, hTR, ht, hi => by
    obtain ⟨hs, hl, ha⟩ := id hr
    have hg63 : g < 2 ^ 63 := Nat.lt_trans hs.1 (by decide)
    rw [fX0_directed.eq_2]
    by_cases h0 : g = 0
    · subst h0
      obtain rfl := Rep_nil hr
      rw [if_pos ((lg0 hg63).mpr rfl)]
      show some 1 = some (nI (if irB T then 1 else 0))
      rw [show irB T = true from bP_t hi]
      rfl
    · obtain ⟨u, v, hu, hv, huv, e1, e2⟩ := c_first hs h0 hN
      obtain ⟨hvu, hne⟩ := hs.2 u v hu hv huv
      obtain ⟨e, M, he, hp⟩ : ∃ e M, (e = (u, v) ∨ e = (v, u)) ∧ L.Perm (e :: M) := by
        rcases (ha u v hu hv).mp huv with z | z
        · obtain ⟨s, t, rfl⟩ := List.append_of_mem z
          exact ⟨_, s ++ t, Or.inl rfl, List.perm_middle⟩
        · obtain ⟨s, t, rfl⟩ := List.append_of_mem z
          exact ⟨_, s ++ t, Or.inr rfl, List.perm_middle⟩
      have hpd2 := PD_perm hp hpd
      have hpd3 := List.pairwise_cons.mp hpd2
      have hlen : L.length = M.length + 1 := by rw [hp.length_eq, List.length_cons]
      have hmem : ∀ f, f ∈ M → f ∈ L ∧ ¬ (f = (u, v) ∨ f = (v, u)) := by
        intro f hf
        refine ⟨hp.mem_iff.mpr (List.mem_cons_of_mem _ hf), ?_⟩
        obtain ⟨q1, q2⟩ := hpd3.1 f hf
        rcases he with he | he
        · rw [he] at q1 q2
          rintro (w | w)
          · exact q1 w
          · exact q2 w
        · rw [he] at q1 q2
          rintro (w | w)
          · exact q2 w
          · exact q1 w
      have hmem2 : ∀ f, f ∈ L → ¬ (f = (u, v) ∨ f = (v, u)) → f ∈ M := by
        intro f hf hn
        rcases List.mem_cons.mp (hp.mem_iff.mp hf) with w | w
        · rw [w] at hn; exact absurd he hn
        · exact w
      have hk15 : k < 15 := by omega
      have hcut : Sy (cutN g u v) := Sy_cut hs hu hv
      have hRM : Rep M (cutN g u v) := by
        refine ⟨hcut, fun f hf => hl f (hmem f hf).1, fun a b h1 h2 => ?_⟩
        rw [cut_t hu hv h1 h2, ha a b h1 h2]
        unfold inE
        constructor
        · rintro ⟨z1 | z1, z2⟩
          · refine Or.inl (hmem2 _ z1 ?_)
            rw [Prod.mk.injEq, Prod.mk.injEq]
            exact z2
          · refine Or.inr (hmem2 _ z1 ?_)
            dsimp only
            rw [Prod.mk.injEq, Prod.mk.injEq]
            omega
        · rintro (z1 | z1)
          · obtain ⟨q1, q2⟩ := hmem _ z1
            rw [Prod.mk.injEq, Prod.mk.injEq] at q2
            exact ⟨Or.inl q1, q2⟩
          · obtain ⟨q1, q2⟩ := hmem _ z1
            dsimp only at q2
            rw [Prod.mk.injEq, Prod.mk.injEq] at q2
            exact ⟨Or.inr q1, by omega⟩
      have hTL : aT L T = aT M (ledR T u v) + aT M (ledR T v u) := by
        rw [aT_perm hp T ht]
        rcases he with he | he
        · rw [he]; rfl
        · rw [he, aT_flip]; rfl
      have ih : ∀ a b, a < 6 → b < 6 → a ≠ b → ¬ T b a → ∃ D', fX0_led N (lN D) (nI a) (nI b) = some (lN D') ∧ fX0_directed N d (lN (cutN g u v)) (nI (k + 1)) (lN D') = some (nI (aT M (ledR T a b))) := by
        intro a b h1 h2 h3 h4
        obtain ⟨D', w1, w2⟩ := c_led hN hTR h1 h2
        exact ⟨D', w2, c_dir hN d M (cutN g u v) (k + 1) D' (ledR T a b) hRM hpd3.2 (by omega) (by omega) w1 (led_tr ht a b) (led_ir hi ht h3 h4)⟩
      have hzero : ∀ a b, T b a → aT M (ledR T a b) = 0 := fun a b h => aT_0 M (x := a) (Or.inr ⟨Or.inl rfl, Or.inr h⟩)
      have h84 : ∀ a, fX0_directed_b84 N (fX0_directed N d) (nI k) (lN D) (nI u) (nI v) (lN (cutN g u v)) (nI a) = some (nI (a + aT M (ledR T v u))) := by
        intro a
        have hlt := rowN_lt D u
        have hb : (rowN D u).testBit v = ad D u v := by rw [rowN_t, decide_eq_true hv, Bool.true_and]
        rw [fX0_directed_b84.eq_1, c_row N hTR.1 hu, bd_s, m_isIn N (by omega) (by omega), bd_s, hb]
        rcases hc : ad D u v with _ | _
        · have hno : ¬ T u v := fun z => by rw [(hTR.2 u v hu hv).mpr z] at hc; cases hc
          obtain ⟨D', w1, w2⟩ := ih v u hv hu (fun z => hne z.symm) hno
          rw [if_pos b01f, w1, bd_s, nI_1, w2, bd_s, nI_add]
        · rw [if_neg b01t, hzero v u ((hTR.2 u v hu hv).mp hc), Nat.add_zero]
      have hlt := rowN_lt g u
      have hlt2 := rowN_lt D v
      have hb : (rowN D v).testBit u = ad D v u := by rw [rowN_t, decide_eq_true hu, Bool.true_and]
      rw [if_neg (fun z => h0 ((lg0 hg63).mp z)), if_pos (show nI k < (15 : Int32) from idx_ltK (K := 15) hk15 (by omega)), e1, bd_s, c_row N hs.1 hu, bd_s, e2, bd_s, c_tie N hu hv, bd_s, c_cut, c_row N hTR.1 hv, bd_s, m_isIn N (by omega) (by omega), bd_s, hb, hTL]
      rcases hc : ad D v u with _ | _
      · have hno : ¬ T v u := fun z => by rw [(hTR.2 v u hv hu).mpr z] at hc; cases hc
        obtain ⟨D', w1, w2⟩ := ih u v hu hv hne hno
        rw [if_pos b01f, w1, bd_s, nI_1, w2, bd_s, z0a, h84]
      · rw [if_neg b01t, hzero u v ((hTR.2 v u hv hu).mp hc)]
        exact h84 0
end DR

