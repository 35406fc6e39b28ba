/-! ===== the class takes the graph apart ===== -/
section AP
def rid (x : Nat) : Nat := x
def Rep (L : List (Nat × Nat)) (g : Nat) : Prop := Sy g ∧ (∀ e, e ∈ L → e.1 < 6 ∧ e.2 < 6 ∧ e.1 ≠ e.2) ∧ (∀ a b, a < 6 → b < 6 → (ad g a b = true ↔ inE (a, b) L))
variable {N : Nat}
theorem c_power (hN : 70000 ≤ N) (q p : Int) (hp : p.natAbs ≤ 1000) : fX0_power N (iI q) (iI p) = some (iI (q ^ p.toNat)) := by
  rw [fX0_power.eq_1]
  have hs : sm p := sm_of hp
  have h := loop_u (fun f j => fX0_power_b4 N (iI q) (iI p) f (iI (q ^ j)) (nI j)) (some (iI (q ^ p.toNat))) p.toNat
    (fun f => by rw [fX0_power_b4.eq_2, if_pos (by rw [← iI_nI, iI_le hs (sm_n (by omega))]; omega)])
    (fun f j hj => by rw [fX0_power_b4.eq_2, if_neg (by rw [← iI_nI, iI_le hs (sm_n (by omega))]; omega), nI_1, iI_mul, Int.pow_succ]) p.toNat N 0 (by omega) (by omega)
  rw [Int.pow_zero] at h
  exact h
/-- one DOT in place of two -/
theorem c_madeOne (hN : 70000 ≤ N) {g u v : Nat} (hg : Sy g) (hu : u < 6) (hv : v < 6) (huv : u ≠ v) (h0 : ad g u v = false) : ∃ c, c < 2 ^ 36 ∧ fX0_madeOne N (lN g) (nI u) (nI v) = some (lN c) ∧ ∀ a b, a < 6 → b < 6 → (ad c a b = true ↔ (ad g a b = true ∧ a ≠ v ∧ b ≠ v) ∨ (a = u ∧ ad g v b = true) ∨ (b = u ∧ ad g v a = true)) := by
  rw [fX0_madeOne.eq_1]
  have hvu : ad g v u = false := by
    apply Bool.eq_false_iff.mpr
    intro z
    rw [(hg.2 v u hv hu z).1] at h0
    cases h0
  obtain ⟨c, ⟨h1, h2⟩, e⟩ := loop_ex (fun f t (c : Nat) => fX0_madeOne_b6 N (lN g) (nI u) (nI v) f (lN c) (nI t)) (fun c => some (lN c)) 6
    (fun t c => c < 2 ^ 36 ∧ ∀ a b, a < 6 → b < 6 → (ad c a b = true ↔ (ad g a b = true ∧ ¬ (a = v ∧ b < t) ∧ ¬ (b = v ∧ a < t)) ∨ (a = u ∧ b < t ∧ ad g v b = true) ∨ (b = u ∧ a < t ∧ ad g v a = true)))
    (fun f c _ => by rw [fX0_madeOne_b6.eq_2, if_pos (by decide)])
    (fun f t c ht hp => by
      obtain ⟨p1, p2⟩ := hp
      have hlt := rowN_lt g v
      rw [fX0_madeOne_b6.eq_2, if_neg (show ¬ (6 : Int32) ≤ nI t from nI_nle' (b := 6) (by omega) ht), c_row N hg.1 hv, bd_s, m_isIn N (by omega) (by omega), bd_s, nI_1]
      have hrt : (rowN g v).testBit t = ad g v t := by rw [rowN_t, decide_eq_true ht, Bool.true_and]
      rw [hrt]
      rcases hb : ad g v t with _ | _
      · rw [if_pos b01f]
        refine ⟨c, ⟨p1, fun a b ha hb' => ?_⟩, rfl⟩
        rw [p2 a b ha hb']
        have hs : ∀ x, x = t → ad g v x = true → False := fun x e z => by subst e; rw [z] at hb; cases hb
        have hs2 : ∀ x, x < 6 → x = t → ad g x v = true → False := fun x hx e z => hs x e (hg.2 x v hx hv z).1
        constructor
        · rintro (⟨z1, z2, z3⟩ | ⟨z1, z2, z3⟩ | ⟨z1, z2, z3⟩)
          · left
            refine ⟨z1, ?_, ?_⟩
            · rintro ⟨w1, w2⟩
              by_cases e : b = t
              · subst w1; exact hs b e z1
              · exact z2 ⟨w1, by omega⟩
            · rintro ⟨w1, w2⟩
              by_cases e : a = t
              · subst w1; exact hs2 a ha e z1
              · exact z3 ⟨w1, by omega⟩
          · exact Or.inr (Or.inl ⟨z1, by omega, z3⟩)
          · exact Or.inr (Or.inr ⟨z1, by omega, z3⟩)
        · rintro (⟨z1, z2, z3⟩ | ⟨z1, z2, z3⟩ | ⟨z1, z2, z3⟩)
          · exact Or.inl ⟨z1, fun w => z2 ⟨w.1, by omega⟩, fun w => z3 ⟨w.1, by omega⟩⟩
          · by_cases e : b = t
            · exact (hs b e z3).elim
            · exact Or.inr (Or.inl ⟨z1, by omega, z3⟩)
          · by_cases e : a = t
            · exact (hs a e z3).elim
            · exact Or.inr (Or.inr ⟨z1, by omega, z3⟩)
      · have htu : t ≠ u := by intro z; subst z; rw [hb] at hvu; cases hvu
        have htv : t ≠ v := fun z => (hg.2 v t hv ht hb).2 z.symm
        rw [if_neg b01t, c_tie N hv ht, bd_s, c_tie N hu ht, bd_s, c_cut, ln_or, nm_s]
        refine ⟨cutN c v t ||| tieN u t, ⟨Nat.or_lt_two_pow (cut_lt p1 v t) (tie_lt hu ht), fun a b ha hb' => ?_⟩, rfl⟩
        rw [ad_or, Bool.or_eq_true, cut_t hv ht ha hb', tie_t hu ht ha hb', p2 a b ha hb']
        constructor
        · rintro (⟨z, w⟩ | z)
          · rcases z with ⟨z1, z2, z3⟩ | ⟨z1, z2, z3⟩ | ⟨z1, z2, z3⟩
            · left
              refine ⟨z1, ?_, ?_⟩
              · rintro ⟨w1, w2⟩
                by_cases e : b = t
                · exact w (Or.inl ⟨w1, e⟩)
                · exact z2 ⟨w1, by omega⟩
              · rintro ⟨w1, w2⟩
                by_cases e : a = t
                · exact w (Or.inr ⟨e, w1⟩)
                · exact z3 ⟨w1, by omega⟩
            · exact Or.inr (Or.inl ⟨z1, by omega, z3⟩)
            · exact Or.inr (Or.inr ⟨z1, by omega, z3⟩)
          · rcases z with ⟨z1, z2⟩ | ⟨z1, z2⟩
            · exact Or.inr (Or.inl ⟨z1, by omega, by rw [z2]; exact hb⟩)
            · exact Or.inr (Or.inr ⟨z2, by omega, by rw [z1]; exact hb⟩)
        · rintro (⟨z1, z2, z3⟩ | ⟨z1, z2, z3⟩ | ⟨z1, z2, z3⟩)
          · left
            refine ⟨Or.inl ⟨z1, fun w => z2 ⟨w.1, by omega⟩, fun w => z3 ⟨w.1, by omega⟩⟩, ?_⟩
            rintro (⟨w1, w2⟩ | ⟨w1, w2⟩)
            · exact z2 ⟨w1, by omega⟩
            · exact z3 ⟨w2, by omega⟩
          · by_cases e : b = t
            · exact Or.inr (Or.inl ⟨z1, e⟩)
            · exact Or.inl ⟨Or.inr (Or.inl ⟨z1, by omega, z3⟩), by omega⟩
          · by_cases e : a = t
            · exact Or.inr (Or.inr ⟨e, z1⟩)
            · exact Or.inl ⟨Or.inr (Or.inr ⟨z1, by omega, z3⟩), by omega⟩)
    6 N 0 g (by omega) (by omega) ⟨hg.1, fun a b _ _ => ⟨fun z => Or.inl ⟨z, fun w => by omega, fun w => by omega⟩, fun z => by
      rcases z with z | z | z
      · exact z.1
      · omega
      · omega⟩⟩
  refine ⟨c, h1, e, fun a b ha hb => ?_⟩
  rw [h2 a b ha hb]
  constructor
  · rintro (⟨z1, z2, z3⟩ | ⟨z1, z2, z3⟩ | ⟨z1, z2, z3⟩)
    · exact Or.inl ⟨z1, fun w => z2 ⟨w, hb⟩, fun w => z3 ⟨w, ha⟩⟩
    · exact Or.inr (Or.inl ⟨z1, z3⟩)
    · exact Or.inr (Or.inr ⟨z1, z3⟩)
  · rintro (⟨z1, z2, z3⟩ | ⟨z1, z3⟩ | ⟨z1, z3⟩)
    · exact Or.inl ⟨z1, fun w => z2 w.1, fun w => z3 w.1⟩
    · exact Or.inr (Or.inl ⟨z1, hb, z3⟩)
    · exact Or.inr (Or.inr ⟨z1, ha, z3⟩)
theorem inE_sw {e : Nat × Nat} {L : List (Nat × Nat)} (h : inE e L) : inE (e.2, e.1) L := h.symm
theorem Rep_nil {L : List (Nat × Nat)} (h : Rep L 0) : L = [] := by
  rcases L with _ | ⟨e, L⟩
  · rfl
  · obtain ⟨h1, h2, h3⟩ := h.2.1 e (List.mem_cons_self)
    have := (h.2.2 e.1 e.2 h1 h2).mpr (Or.inl (List.mem_cons_self))
    unfold ad at this
    rw [Nat.zero_testBit] at this
    cases this
theorem c_apart (hN : 70000 ≤ N) (q : Int) : ∀ (d : Nat) (L : List (Nat × Nat)) (g : Nat) (p : Int) (k : Nat), Rep L g → L.length + k ≤ 15 → L.length < d → p.natAbs + L.length ≤ 100 → fX0_apart N d (lN g) (iI q) (iI p) (nI k) = some (iI (tT q L rid 1 p))
  | 0, _, _, _, _, _, _, h, _ => absurd h (Nat.not_lt_zero _)
  | d + 1, L, g, p, k, hr, hk, hd, hp => by
    obtain ⟨hs, hl, ha⟩ := id hr
    have hg63 : g < 2 ^ 63 := Nat.lt_trans hs.1 (by decide)
    rw [fX0_apart.eq_2]
    by_cases h0 : g = 0
    · subst h0
      obtain rfl := Rep_nil hr
      rw [if_pos ((lg0 hg63).mpr rfl), fX0_apart_b13.eq_1, c_power hN q p (by omega), bd_s]
      show some (iI (q ^ p.toNat)) = some (iI (1 * q ^ p.toNat))
      rw [Int.one_mul]
    · obtain ⟨u, v, hu, hv, huv, e1, e2⟩ := c_first hs h0 hN
      obtain ⟨hvu, hne⟩ := hs.2 u v hu hv huv
      -- the list without that edge
      obtain ⟨M, hM⟩ : ∃ M, M = L.filter (fun e => decide (¬ (e = (u, v) ∨ e = (v, u)))) := ⟨_, rfl⟩
      have hmem : ∀ e, e ∈ M ↔ e ∈ L ∧ ¬ (e = (u, v) ∨ e = (v, u)) := by
        intro e
        rw [hM, List.mem_filter, decide_eq_true_eq]
      have hlen : M.length < L.length := by
        rw [hM, List.length_filter_lt_length_iff_exists]
        rcases (ha u v hu hv).mp huv with z | z
        · exact ⟨(u, v), z, by simp⟩
        · exact ⟨(v, u), z, by simp⟩
      have hk15 : k < 15 := by omega
      have hcut : Sy (cutN g u v) := Sy_cut hs hu hv
      have hRM : Rep M (cutN g u v) := by
        refine ⟨hcut, fun e he => hl e ((hmem e).mp he).1, fun a b h1 h2 => ?_⟩
        rw [cut_t hu hv h1 h2, ha a b h1 h2]
        unfold inE
        rw [hmem, hmem, Prod.mk.injEq, Prod.mk.injEq, Prod.mk.injEq, Prod.mk.injEq]
        dsimp only
        constructor
        · rintro ⟨z1 | z1, z2⟩
          · exact Or.inl ⟨z1, z2⟩
          · exact Or.inr ⟨z1, by omega⟩
        · rintro (⟨z1, z2⟩ | ⟨z1, z2⟩)
          · exact ⟨Or.inl z1, z2⟩
          · exact ⟨Or.inr z1, by omega⟩
      have hTL : tT q L rid 1 p = tT q ((v, u) :: M) rid 1 p := by
        apply tT_set
        · intro e he
          rcases List.mem_cons.mp he with z | z
          · subst z; exact inE_sw ((ha u v hu hv).mp huv)
          · exact Or.inl ((hmem e).mp z).1
        · intro e he
          by_cases c : e = (u, v) ∨ e = (v, u)
          · rcases c with c | c
            · subst c; exact Or.inr (List.mem_cons_self)
            · subst c; exact Or.inl (List.mem_cons_self)
          · exact Or.inl (List.mem_cons_of_mem _ ((hmem e).mpr ⟨he, c⟩))
      have h0' : ad (cutN g u v) u v = false := by
        apply Bool.eq_false_iff.mpr
        intro z
        rw [cut_t hu hv hu hv] at z
        exact z.2 (Or.inl ⟨rfl, rfl⟩)
      obtain ⟨c, hc36, e3, hc⟩ := c_madeOne hN hcut hu hv hne h0'
      have hvu0 : ad (cutN g u v) v u = false := by
        apply Bool.eq_false_iff.mpr
        intro z
        rw [cut_t hu hv hv hu] at z
        exact z.2 (Or.inr ⟨rfl, rfl⟩)
      -- one dot for two
      have hphi : mg rid v u = fun x => rid (if x = v then u else x) := by
        funext x
        unfold mg rid
        rfl
      obtain ⟨φ, hφ⟩ : ∃ φ : Nat → Nat, φ = fun x => if x = v then u else x := ⟨_, rfl⟩
      have hphi' : mg rid v u = fun x => rid (φ x) := by rw [hφ]; exact hphi
      have hφ6 : ∀ x, x < 6 → φ x < 6 := by intro x hx; rw [hφ]; dsimp only; split <;> omega
      have hφv : ∀ x, φ x ≠ v := by intro x; rw [hφ]; dsimp only; split <;> omega
      have hφ1 : φ v = u := by rw [hφ]; exact if_pos rfl
      have hφ2 : ∀ x, x ≠ v → φ x = x := by intro x hx; rw [hφ]; exact if_neg hx
      have hadM : ∀ e, e ∈ M → ad (cutN g u v) e.1 e.2 = true := fun e he => by
        obtain ⟨z1, z2, -⟩ := hl e ((hmem e).mp he).1
        exact (hRM.2.2 e.1 e.2 z1 z2).mpr (Or.inl he)
      have hne2 : ∀ x y, x < 6 → y < 6 → ad (cutN g u v) x y = true → φ x ≠ φ y := by
        intro x y hx hy h z
        obtain ⟨h1, h2⟩ := hcut.2 x y hx hy h
        by_cases cx : x = v
        · by_cases cy : y = v
          · omega
          · subst cx
            rw [hφ1, hφ2 y cy] at z
            subst z
            rw [h] at hvu0; cases hvu0
        · by_cases cy : y = v
          · subst cy
            rw [hφ1, hφ2 x cx] at z
            subst z
            rw [h] at h0'; cases h0'
          · rw [hφ2 x cx, hφ2 y cy] at z
            exact h2 z
      have hRc : Rep (M.map (fun e => (φ e.1, φ e.2))) c := by
        have key : ∀ a b, a < 6 → b < 6 → (ad c a b = true ↔ inE (a, b) (M.map (fun e => (φ e.1, φ e.2)))) := by
          intro a b h1 h2
          rw [hc a b h1 h2]
          unfold inE
          rw [List.mem_map, List.mem_map]
          have mk : ∀ x y, x < 6 → y < 6 → ad (cutN g u v) x y = true → (∃ e, e ∈ M ∧ (φ e.1, φ e.2) = (φ x, φ y)) ∨ (∃ e, e ∈ M ∧ (φ e.1, φ e.2) = (φ y, φ x)) := by
            intro x y hx hy h
            rcases (hRM.2.2 x y hx hy).mp h with z | z
            · exact Or.inl ⟨_, z, rfl⟩
            · exact Or.inr ⟨_, z, rfl⟩
          constructor
          · rintro (⟨z1, z2, z3⟩ | ⟨z1, z2⟩ | ⟨z1, z2⟩)
            · have := mk a b h1 h2 z1
              rw [hφ2 a z2, hφ2 b z3] at this
              exact this
            · have hbv : b ≠ v := fun w => (hcut.2 v b hv h2 z2).2 w.symm
              have := mk v b hv h2 z2
              rw [hφ1, hφ2 b hbv, ← z1] at this
              exact this
            · have hav : a ≠ v := fun w => (hcut.2 v a hv h1 z2).2 w.symm
              have := mk v a hv h1 z2
              rw [hφ1, hφ2 a hav, ← z1] at this
              exact this.symm
          · have back : ∀ x y a b, x < 6 → y < 6 → ad (cutN g u v) x y = true → φ x = a → φ y = b → (ad (cutN g u v) a b = true ∧ a ≠ v ∧ b ≠ v) ∨ (a = u ∧ ad (cutN g u v) v b = true) ∨ (b = u ∧ ad (cutN g u v) v a = true) := by
              intro x y a b hx hy h ea eb
              obtain ⟨hyx, hxy⟩ := hcut.2 x y hx hy h
              by_cases cx : x = v
              · subst cx
                rw [hφ1] at ea
                rw [hφ2 y (fun w => hxy w.symm)] at eb
                subst eb
                exact Or.inr (Or.inl ⟨ea.symm, h⟩)
              · by_cases cy : y = v
                · subst cy
                  rw [hφ1] at eb
                  rw [hφ2 x cx] at ea
                  subst ea
                  exact Or.inr (Or.inr ⟨eb.symm, hyx⟩)
                · rw [hφ2 x cx] at ea
                  rw [hφ2 y cy] at eb
                  subst ea; subst eb
                  exact Or.inl ⟨h, cx, cy⟩
            rintro (⟨e, he, z⟩ | ⟨e, he, z⟩)
            · obtain ⟨y1, y2, -⟩ := hl e ((hmem e).mp he).1
              rw [Prod.mk.injEq] at z
              exact back e.1 e.2 a b y1 y2 (hadM e he) z.1 z.2
            · obtain ⟨y1, y2, -⟩ := hl e ((hmem e).mp he).1
              rw [Prod.mk.injEq] at z
              exact back e.2 e.1 a b y2 y1 (hcut.2 e.1 e.2 y1 y2 (hadM e he)).1 z.2 z.1
        have hloop : ∀ e, e ∈ M.map (fun e => (φ e.1, φ e.2)) → e.1 < 6 ∧ e.2 < 6 ∧ e.1 ≠ e.2 := by
          intro e he
          rw [List.mem_map] at he
          obtain ⟨f, hf, rfl⟩ := he
          obtain ⟨y1, y2, -⟩ := hl f ((hmem f).mp hf).1
          exact ⟨hφ6 _ y1, hφ6 _ y2, hne2 _ _ y1 y2 (hadM f hf)⟩
        refine ⟨⟨hc36, fun a b h1 h2 h => ?_⟩, hloop, key⟩
        have z := (key a b h1 h2).mp h
        refine ⟨(key b a h2 h1).mpr z.symm, ?_⟩
        rcases z with z | z
        · exact (hloop _ z).2.2
        · exact fun w => (hloop _ z).2.2 w.symm
      have ih1 := c_apart hN q d M (cutN g u v) p (k + 1) hRM (by omega) (by omega) (by omega)
      have ih2 := c_apart hN q d (M.map (fun e => (φ e.1, φ e.2))) c (p - 1) (k + 1) hRc (by rw [List.length_map]; omega) (by rw [List.length_map]; omega) (by rw [List.length_map]; omega)
      have hff : ff (rid v = rid u) = 1 := by unfold ff rid; rw [if_neg (fun z => hne z.symm)]
      have hlt := rowN_lt g u
      rw [if_neg (fun z => h0 ((lg0 hg63).mp z)), if_pos (show nI k < (15 : Int32) from idx_ltK (K := 15) hk15 (by omega)), e1, bd_s, c_row N hs.1 hu, bd_s, e2, bd_s, c_tie N hu hv, bd_s, c_cut, nI_1, ih1, bd_s, e3, bd_s, iI_1, iI_sub, ih2, bd_s, iI_sub, hTL, tT_c]
      dsimp only
      rw [hff, tT_n, hphi', tT_map q φ M rid 1 (p - 1), Int.sub_eq_add_neg]
end AP

