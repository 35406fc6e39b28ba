/-! ===== edge, colouringsAnew, directionsAnew ===== -/
section GO
def sameE (U V : Nat → Nat) (e a b : Nat) : Prop := (U e = a ∧ V e = b) ∨ (U e = b ∧ V e = a)
def Gd (m : Nat) (U V : Nat → Nat) (d1 d2 : Nat → Int32) (g : Nat) : Prop := EA m U V d1 d2 ∧ Rep (eL U V 0 m) g ∧ ∀ e f, e < m → f < m → sameE U V e (U f) (V f) → e = f
def GR (ge : Int64) (de : Int32) (d1 d2 : Nat → Int32) : Prop := ∃ m U V g, ge = lN g ∧ de = nI m ∧ Gd m U V d1 d2 g
theorem same_u {U V : Nat → Nat} {e a b x y : Nat} (h1 : sameE U V e a b) (h2 : sameE U V e x y) : (x = a ∧ y = b) ∨ (x = b ∧ y = a) := by
  unfold sameE at h1 h2
  omega
theorem same_c {U V : Nat → Nat} {e a b x y : Nat} (h : (x = a ∧ y = b) ∨ (x = b ∧ y = a)) : sameE U V e x y ↔ sameE U V e a b := by
  unfold sameE
  omega
variable {N : Nat} {U V : Nat → Nat} {d1 d2 : Nat → Int32} {m g : Nat}
theorem inE_iff (U V : Nat → Nat) (m a b : Nat) : inE (a, b) (eL U V 0 m) ↔ ∃ e, e < m ∧ sameE U V e a b := by
  unfold inE
  rw [eL_mem, eL_mem]
  constructor
  · rintro (⟨i, h1, h2, h3⟩ | ⟨i, h1, h2, h3⟩)
    · rw [Prod.mk.injEq] at h3
      exact ⟨i, by omega, Or.inl ⟨h3.1.symm, h3.2.symm⟩⟩
    · rw [Prod.mk.injEq] at h3
      exact ⟨i, by omega, Or.inr ⟨h3.1.symm, h3.2.symm⟩⟩
  · rintro ⟨i, h1, ⟨h2, h3⟩ | ⟨h2, h3⟩⟩
    · exact Or.inl ⟨i, by omega, by omega, by rw [h2, h3]⟩
    · exact Or.inr ⟨i, by omega, by omega, by rw [h2, h3]⟩
theorem Rep_of {U V : Nat → Nat} {m g : Nat} (hg : g < 2 ^ 36) (h6 : ∀ e, e < m → U e < 6 ∧ V e < 6 ∧ U e ≠ V e) (ha : ∀ a b, a < 6 → b < 6 → (ad g a b = true ↔ ∃ e, e < m ∧ sameE U V e a b)) : Rep (eL U V 0 m) g := by
  refine ⟨⟨hg, fun a b h1 h2 h => ?_⟩, fun e he => ?_, fun a b h1 h2 => by rw [inE_iff]; exact ha a b h1 h2⟩
  · obtain ⟨e, h3, h4⟩ := (ha a b h1 h2).mp h
    refine ⟨(ha b a h2 h1).mpr ⟨e, h3, h4.symm⟩, ?_⟩
    obtain ⟨-, -, h7⟩ := h6 e h3
    rcases h4 with ⟨w1, w2⟩ | ⟨w1, w2⟩ <;> omega
  · obtain ⟨i, -, h2, rfl⟩ := (eL_mem U V e m 0).mp he
    exact h6 i (by omega)
theorem Rep_6 (h : Rep (eL U V 0 m) g) {e : Nat} (he : e < m) : U e < 6 ∧ V e < 6 ∧ U e ≠ V e := h.2.1 (U e, V e) ((eL_mem U V _ m 0).mpr ⟨e, by omega, by omega, rfl⟩)
theorem Rep_ad (h : Rep (eL U V 0 m) g) {a b : Nat} (ha : a < 6) (hb : b < 6) : ad g a b = true ↔ ∃ e, e < m ∧ sameE U V e a b := by
  rw [h.2.2 a b ha hb, inE_iff]
/-- as many EDGES as rows say -/
theorem cnt_E (hr : Rep (eL U V 0 m) g) (hd : ∀ e f, e < m → f < m → sameE U V e (U f) (V f) → e = f) : m = cE g := by
  apply Nat.le_antisymm
  · have hall : rk (fun _ => true) m = m := by
      have : ∀ m, rk (fun _ => true) m = m := fun m => by
        induction m with
        | zero => rfl
        | succ m ih => rw [rk_s, ih]; rfl
      exact this m
    rw [← hall]
    have hex : ∀ e, ∃ i, e < m → i < 15 ∧ ((pA i = U e ∧ pB i = V e) ∨ (pA i = V e ∧ pB i = U e)) := by
      intro e
      by_cases he : e < m
      · obtain ⟨h1, h2, h3⟩ := Rep_6 hr he
        rcases Nat.lt_trichotomy (U e) (V e) with c | c | c
        · obtain ⟨i, hi, e1, e2⟩ := p_ex _ h1 _ h2 c
          exact ⟨i, fun _ => ⟨hi, Or.inl ⟨e1, e2⟩⟩⟩
        · exact absurd c h3
        · obtain ⟨i, hi, e1, e2⟩ := p_ex _ h2 _ h1 c
          exact ⟨i, fun _ => ⟨hi, Or.inr ⟨e1, e2⟩⟩⟩
      · exact ⟨0, fun z => absurd z he⟩
    refine pig2 (f := fun e => Classical.choose (hex e)) (fun e he _ => ?_) (fun e f he hf _ _ hef => ?_)
    · obtain ⟨h1, h2⟩ := Classical.choose_spec (hex e) he
      obtain ⟨q1, q2, -⟩ := pAB _ h1
      refine ⟨h1, ?_⟩
      rw [Rep_ad hr q1 q2]
      refine ⟨e, he, ?_⟩
      rcases h2 with ⟨w1, w2⟩ | ⟨w1, w2⟩
      · exact Or.inl ⟨w1.symm, w2.symm⟩
      · exact Or.inr ⟨w2.symm, w1.symm⟩
    · obtain ⟨h1, h2⟩ := Classical.choose_spec (hex e) he
      obtain ⟨h3, h4⟩ := Classical.choose_spec (hex f) hf
      rw [hef] at h2
      apply hd e f he hf
      unfold sameE
      omega
  · have hex : ∀ i, ∃ e, i < 15 → ad g (pA i) (pB i) = true → e < m ∧ sameE U V e (pA i) (pB i) := by
      intro i
      by_cases hi : i < 15
      · by_cases hb : ad g (pA i) (pB i) = true
        · obtain ⟨q1, q2, -⟩ := pAB i hi
          obtain ⟨e, h1, h2⟩ := (Rep_ad hr q1 q2).mp hb
          exact ⟨e, fun _ _ => ⟨h1, h2⟩⟩
        · exact ⟨0, fun _ z => absurd z hb⟩
      · exact ⟨0, fun z => absurd z hi⟩
    unfold cE
    refine pig (f := fun i => Classical.choose (hex i)) m _ (fun i hi hb => (Classical.choose_spec (hex i) hi hb).1) (fun i j hi hj hbi hbj hij => ?_)
    obtain ⟨h1, h2⟩ := Classical.choose_spec (hex i) hi hbi
    obtain ⟨h3, h4⟩ := Classical.choose_spec (hex j) hj hbj
    rw [hij] at h2
    obtain ⟨-, -, q3⟩ := pAB i hi
    obtain ⟨-, -, q4⟩ := pAB j hj
    apply p_inj i hi j hj
    · unfold sameE at h2 h4; omega
    · unfold sameE at h2 h4; omega
theorem tog_t {a b x y : Nat} (ha : a < 6) (hb : b < 6) (hx : x < 6) (hy : y < 6) : ad (g ^^^ tieN a b) x y = true ↔ ¬ (ad g x y = true ↔ ((x = a ∧ y = b) ∨ (x = b ∧ y = a))) := by
  rw [ad_xor, ← tie_t ha hb hx hy]
  cases ad g x y <;> cases ad (tieN a b) x y <;> simp
theorem c_dot_t (N : Nat) {a : Nat} (h : a < 6) : fX4_isDot N (nI a) = some 1 := by
  rw [fX4_isDot.eq_1, if_neg (idx_lt0 h (by omega)), if_neg (show ¬ (6 : Int32) ≤ nI a from nI_nle' (b := 6) (by omega) h), zo_1]
theorem c_dot_f (N : Nat) {x : Int32} (h : bad x 6) : fX4_isDot N x = some 0 := by
  rw [fX4_isDot.eq_1]
  by_cases c : x < 0
  · rw [if_pos c, zo_0]
  · rw [if_neg c, if_pos (show (6 : Int32) ≤ x from h.resolve_left c), zo_0]
theorem in6t (N : Nat) {w : Nat} (h : w < 6) : fX5_in N (nI w) 0 5 = some (b01 true) := in_t (K := 6) N h (by omega)
theorem in6f (N : Nat) {x : Int32} (h : bad x 6) : fX5_in N x 0 5 = some (b01 false) := in_f (K := 6) N h (by omega)
abbrev ER : Type := Int32 × Int32 × (Nat → Int32) × (Nat → Int32) × Int32
theorem r_search (hN : 70000 ≤ N) (hE : EA m U V d1 d2) {a b : Nat} (ha : a < 6) (hb : b < 6) (Kc : Int32 → Option ER) : ∃ s, ((∃ e, e < m ∧ sameE U V e a b ∧ s = nI e) ∨ (s = -1 ∧ ∀ e, e < m → ¬ sameE U V e a b)) ∧ fX5_edge_b58 N (nI m) d1 d2 (nI a) (nI b) Kc N (-1) 0 = Kc s := by
  have hm := hE.1
  obtain ⟨s, h1, e⟩ := loop_ex (fun f j (s : Int32) => fX5_edge_b58 N (nI m) d1 d2 (nI a) (nI b) Kc f s (nI j)) Kc m
    (fun j s => (∃ e, e < j ∧ sameE U V e a b ∧ s = nI e) ∨ (s = -1 ∧ ∀ e, e < j → ¬ sameE U V e a b))
    (fun f s _ => by rw [fX5_edge_b58.eq_2, if_pos (nI_le' (by omega) (Nat.le_refl m))])
    (fun f j s hj hp => by
      obtain ⟨a1, a2, a3, a4⟩ := hE.2 j hj
      have e1 : (nI (U j) = nI a) ↔ U j = a := nI_eq (by omega) (by omega)
      have e2 : (nI (V j) = nI b) ↔ V j = b := nI_eq (by omega) (by omega)
      have e3 : (nI (U j) = nI b) ↔ U j = b := nI_eq (by omega) (by omega)
      have e4 : (nI (V j) = nI a) ↔ V j = a := nI_eq (by omega) (by omega)
      have yes : sameE U V j a b → ∃ s', ((∃ e, e < j + 1 ∧ sameE U V e a b ∧ s' = nI e) ∨ (s' = -1 ∧ ∀ e, e < j + 1 → ¬ sameE U V e a b)) ∧ fX5_edge_b58 N (nI m) d1 d2 (nI a) (nI b) Kc f (nI j) (nI (j + 1)) = fX5_edge_b58 N (nI m) d1 d2 (nI a) (nI b) Kc f s' (nI (j + 1)) := fun h => ⟨nI j, Or.inl ⟨j, by omega, h, rfl⟩, rfl⟩
      have no : ¬ sameE U V j a b → ∃ s', ((∃ e, e < j + 1 ∧ sameE U V e a b ∧ s' = nI e) ∨ (s' = -1 ∧ ∀ e, e < j + 1 → ¬ sameE U V e a b)) ∧ fX5_edge_b58 N (nI m) d1 d2 (nI a) (nI b) Kc f s (nI (j + 1)) = fX5_edge_b58 N (nI m) d1 d2 (nI a) (nI b) Kc f s' (nI (j + 1)) := fun h => by
        refine ⟨s, ?_, rfl⟩
        rcases hp with ⟨e, q1, q2, q3⟩ | ⟨q1, q2⟩
        · exact Or.inl ⟨e, by omega, q2, q3⟩
        · refine Or.inr ⟨q1, fun e he => ?_⟩
          by_cases c : e = j
          · subst c; exact h
          · exact q2 e (by omega)
      have h89 : fX5_edge_b89 N d1 d2 (nI a) (nI b) s (nI j) (fun (x3_1151 x4_1152 : Int32) => fX5_edge_b58 N (nI m) d1 d2 (nI a) (nI b) Kc f x3_1151 x4_1152) = if U j = b ∧ V j = a then fX5_edge_b58 N (nI m) d1 d2 (nI a) (nI b) Kc f (nI j) (nI (j + 1)) else fX5_edge_b58 N (nI m) d1 d2 (nI a) (nI b) Kc f s (nI (j + 1)) := by
        rw [fX5_edge_b89.eq_1, rd_15 (by omega), a1, rd_15 (by omega), a2, nI_1]
        by_cases c1 : U j = b
        · rw [if_pos (e3.mpr c1)]
          by_cases c2 : V j = a
          · rw [if_pos (e4.mpr c2), if_pos ⟨c1, c2⟩]
          · rw [if_neg (fun z => c2 (e4.mp z)), if_neg (fun z => c2 z.2)]
        · rw [if_neg (fun z => c1 (e3.mp z)), if_neg (fun z => c1 z.1)]
      rw [fX5_edge_b58.eq_2, if_neg (nI_nle' (by omega) hj), rd_15 (by omega), a1, rd_15 (by omega), a2, h89, nI_1]
      by_cases c1 : U j = a
      · rw [if_pos (e1.mpr c1)]
        by_cases c2 : V j = b
        · rw [if_pos (e2.mpr c2)]
          exact yes (Or.inl ⟨c1, c2⟩)
        · rw [if_neg (fun z => c2 (e2.mp z))]
          by_cases c3 : U j = b ∧ V j = a
          · rw [if_pos c3]; exact yes (Or.inr c3)
          · rw [if_neg c3]; exact no (fun z => z.elim (fun w => c2 w.2) c3)
      · rw [if_neg (fun z => c1 (e1.mp z))]
        by_cases c3 : U j = b ∧ V j = a
        · rw [if_pos c3]; exact yes (Or.inr c3)
        · rw [if_neg c3]; exact no (fun z => z.elim (fun w => c1 w.1) c3))
    m N 0 (-1) (by omega) (by omega) (Or.inr ⟨rfl, fun e he => absurd he (Nat.not_lt_zero e)⟩)
  exact ⟨s, h1, e⟩
theorem o_edge {ge : Int64} {de : Int32} (h : GR ge de d1 d2) (hN : 70000 ≤ N) (t0 : Int32) (o : Nat → Int64) (x1 x2 : Int32) :
    ∃ u v, fL_edge N ge o x1 x2 = some u ∧ fX5_edge N de d1 d2 t0 x1 x2 = some v ∧ v.2.2.2.2 = u.1 ∧ (u.1 = 0 → u.2.2 0 = Int32.toInt64 v.1) ∧ GR u.2.1 v.2.1 v.2.2.1 v.2.2.2.1 := by
  have h0 := h
  obtain ⟨m, U, V, g, rfl, rfl, hE, hr, hd⟩ := h
  have hm := hE.1
  rw [fL_edge.eq_1, fX4_edge.eq_1, fX5_edge.eq_1]
  rcases idx x1 (K := 6) (by omega) with ⟨a, ha, rfl⟩ | hb
  · rw [c_dot_t N ha, bd_s, if_neg one_ne0, in6t N ha, bd_s, if_neg b01t]
    rcases idx x2 (K := 6) (by omega) with ⟨b, hb, rfl⟩ | hb
    · rw [c_dot_t N hb, bd_s, if_neg one_ne0, in6t N hb, bd_s, if_neg b01t, fX5_edge_b24.eq_1, f_t', bd_s, if_pos b01f]
      by_cases hab : a = b
      · subst hab
        rw [if_pos rfl, bdc_l, if_neg xne1, if_pos rfl, if_pos rfl, fX5_edge_b44.eq_1, f_f', bd_s, if_neg b01t]
        exact ⟨_, _, rfl, rfl, rfl, fun z => absurd z two_ne0, h0⟩
      · have hne : ¬ nI a = nI b := by rw [nI_eq (by omega) (by omega)]; exact hab
        rw [if_neg hne, if_neg hne, fX5_edge_b44.eq_1, f_t', bd_s, if_pos b01f, fX0_turn.eq_1, c_tie N ha hb, bd_s, bd_s, ln_xor]
        have hg2 : g ^^^ tieN a b < 2 ^ 36 := Nat.xor_lt_two_pow hr.1.1 (tie_lt ha hb)
        dsimp only
        obtain ⟨Kc, hKc⟩ : ∃ Kc : Int32 → Option ER, Kc = (fun (x3_1156 : Int32) => if x3_1156 = (-1) then ck 15 (nI m) (ck 15 (nI m) (some ((nI m + 1), (nI m + 1), (upd d1 (Int32.toNatClampNeg (nI m)) (nI a)), (upd d2 (Int32.toNatClampNeg (nI m)) (nI b)), 0))) else rd d1 15 (nI m - 1) (fun v_1158 => ck 15 x3_1156 (rd d2 15 (nI m - 1) (fun v_1159 => ck 15 x3_1156 (some ((nI m - 1), (nI m - 1), (upd d1 (Int32.toNatClampNeg x3_1156) v_1158), (upd d2 (Int32.toNatClampNeg x3_1156) v_1159), 0)))))) := ⟨_, rfl⟩
        rw [← hKc]
        obtain ⟨s, hs, e1⟩ := r_search (N := N) hN hE ha hb Kc
        rw [e1, hKc]
        dsimp only
        rcases hs with ⟨e0, he0, hse, rfl⟩ | ⟨rfl, hno⟩
        · -- the edge is there: it goes
          obtain ⟨l1, l2, l3, l4⟩ := hE.2 (m - 1) (by omega)
          rw [if_neg (nI_ne_m1 (by omega)), nI_m1 m (by omega), rd_15 (by omega), ck_15 (by omega), rd_15 (by omega), ck_15 (by omega), nI_clamp (by omega), l1, l2]
          obtain ⟨U', hU'⟩ : ∃ U' : Nat → Nat, U' = fun i => if i = e0 then U (m - 1) else U i := ⟨_, rfl⟩
          obtain ⟨V', hV'⟩ : ∃ V' : Nat → Nat, V' = fun i => if i = e0 then V (m - 1) else V i := ⟨_, rfl⟩
          obtain ⟨τ, hτ⟩ : ∃ τ : Nat → Nat, τ = fun i => if i = e0 then m - 1 else i := ⟨_, rfl⟩
          have hUτ : ∀ i, U' i = U (τ i) ∧ V' i = V (τ i) := by
            intro i
            rw [hU', hV', hτ]
            dsimp only
            by_cases c : i = e0
            · rw [if_pos c, if_pos c, if_pos c]; exact ⟨rfl, rfl⟩
            · rw [if_neg c, if_neg c, if_neg c]; exact ⟨rfl, rfl⟩
          have hτm : ∀ i, i < m - 1 → τ i < m ∧ τ i ≠ e0 := by
            intro i hi
            rw [hτ]
            dsimp only
            by_cases c : i = e0
            · rw [if_pos c]; omega
            · rw [if_neg c]; omega
          have hτi : ∀ i j, i < m - 1 → j < m - 1 → τ i = τ j → i = j := by
            intro i j hi hj
            rw [hτ]
            dsimp only
            split <;> split <;> omega
          have hτs : ∀ j, j < m → j ≠ e0 → ∃ i, i < m - 1 ∧ τ i = j := by
            intro j hj hje
            by_cases c : j = m - 1
            · exact ⟨e0, by omega, by rw [hτ]; dsimp only; rw [if_pos rfl, c]⟩
            · exact ⟨j, by omega, by rw [hτ]; dsimp only; rw [if_neg hje]⟩
          have hsm : ∀ i x y, sameE U' V' i x y ↔ sameE U V (τ i) x y := by
            intro i x y
            unfold sameE
            rw [(hUτ i).1, (hUτ i).2]
          have huniq : ∀ e, e < m → sameE U V e a b → e = e0 := by
            intro e he hs
            apply hd e e0 he he0
            unfold sameE at *
            omega
          have hr2 : Rep (eL U' V' 0 (m - 1)) (g ^^^ tieN a b) := by
            refine Rep_of hg2 (fun i hi => ?_) (fun x y hx hy => ?_)
            · rw [(hUτ i).1, (hUτ i).2]
              exact Rep_6 hr (hτm i hi).1
            · rw [tog_t ha hb hx hy, Rep_ad hr hx hy]
              constructor
              · intro z
                by_cases c : (x = a ∧ y = b) ∨ (x = b ∧ y = a)
                · exfalso
                  apply z
                  exact ⟨fun _ => c, fun _ => ⟨e0, he0, (same_c c).mpr hse⟩⟩
                · have : ∃ e, e < m ∧ sameE U V e x y := by
                    apply Classical.byContradiction
                    intro w
                    exact z ⟨fun q => absurd q w, fun q => absurd q c⟩
                  obtain ⟨e, he, hs⟩ := this
                  have hee : e ≠ e0 := by
                    intro q
                    subst q
                    exact c (same_u hse hs)
                  obtain ⟨i, hi, hτe⟩ := hτs e he hee
                  exact ⟨i, hi, by rw [hsm, hτe]; exact hs⟩
              · rintro ⟨i, hi, hs⟩ z
                rw [hsm] at hs
                obtain ⟨q1, q2⟩ := hτm i hi
                have c := z.mp ⟨τ i, q1, hs⟩
                apply q2
                exact huniq _ q1 ((same_c c).mp hs)
          have hd2 : ∀ e f, e < m - 1 → f < m - 1 → sameE U' V' e (U' f) (V' f) → e = f := by
            intro e f he hf hs
            rw [hsm, (hUτ f).1, (hUτ f).2] at hs
            exact hτi e f he hf (hd _ _ (hτm e he).1 (hτm f hf).1 hs)
          have hE2 : EA (m - 1) U' V' (upd d1 e0 (nI (U (m - 1)))) (upd d2 e0 (nI (V (m - 1)))) := by
            refine ⟨by omega, fun i hi => ?_⟩
            obtain ⟨q1, q2, q3⟩ := Rep_6 hr2 hi
            refine ⟨?_, ?_, q1, q2⟩
            · by_cases c : i = e0
              · rw [hU', c, up_s]; dsimp only; rw [if_pos rfl]
              · rw [hU', up_n c]; dsimp only; rw [if_neg c]; exact (hE.2 i (by omega)).1
            · by_cases c : i = e0
              · rw [hV', c, up_s]; dsimp only; rw [if_pos rfl]
              · rw [hV', up_n c]; dsimp only; rw [if_neg c]; exact (hE.2 i (by omega)).2.1
          rw [c_count N hr2.1, bd_s, bdc_r, ← cnt_E hr2 hd2]
          exact ⟨_, _, rfl, rfl, rfl, fun _ => updL0 o _, ⟨m - 1, U', V', _, rfl, rfl, hE2, hr2, hd2⟩⟩
        · -- it is not: it comes
          obtain ⟨U', hU'⟩ : ∃ U' : Nat → Nat, U' = fun i => if i = m then a else U i := ⟨_, rfl⟩
          obtain ⟨V', hV'⟩ : ∃ V' : Nat → Nat, V' = fun i => if i = m then b else V i := ⟨_, rfl⟩
          have hold : ∀ i, i < m → U' i = U i ∧ V' i = V i := by
            intro i hi
            rw [hU', hV']
            dsimp only
            rw [if_neg (by omega), if_neg (by omega)]
            exact ⟨rfl, rfl⟩
          have hnew : U' m = a ∧ V' m = b := by
            rw [hU', hV']
            dsimp only
            rw [if_pos rfl, if_pos rfl]
            exact ⟨rfl, rfl⟩
          have hsm : ∀ i x y, i < m → (sameE U' V' i x y ↔ sameE U V i x y) := by
            intro i x y hi
            unfold sameE
            rw [(hold i hi).1, (hold i hi).2]
          have hr2 : Rep (eL U' V' 0 (m + 1)) (g ^^^ tieN a b) := by
            refine Rep_of hg2 (fun i hi => ?_) (fun x y hx hy => ?_)
            · by_cases c : i = m
              · subst c; rw [hnew.1, hnew.2]; exact ⟨ha, hb, hab⟩
              · rw [(hold i (by omega)).1, (hold i (by omega)).2]; exact Rep_6 hr (by omega)
            · rw [tog_t ha hb hx hy, Rep_ad hr hx hy]
              constructor
              · intro z
                by_cases c : (x = a ∧ y = b) ∨ (x = b ∧ y = a)
                · refine ⟨m, by omega, ?_⟩
                  unfold sameE
                  rw [hnew.1, hnew.2]
                  omega
                · have : ∃ e, e < m ∧ sameE U V e x y := by
                    apply Classical.byContradiction
                    intro w
                    exact z ⟨fun q => absurd q w, fun q => absurd q c⟩
                  obtain ⟨e, he, hs⟩ := this
                  exact ⟨e, by omega, (hsm e x y he).mpr hs⟩
              · rintro ⟨i, hi, hs⟩ z
                by_cases c : i = m
                · subst c
                  unfold sameE at hs
                  rw [hnew.1, hnew.2] at hs
                  have c3 : (x = a ∧ y = b) ∨ (x = b ∧ y = a) := by
                    clear z
                    omega
                  obtain ⟨e, he, hse⟩ := z.mpr c3
                  exact hno e he ((same_c c3).mp hse)
                · have hi' : i < m := by omega
                  rw [hsm i x y hi'] at hs
                  have cc := z.mp ⟨i, hi', hs⟩
                  exact hno i hi' ((same_c cc).mp hs)
          have hd2 : ∀ e f, e < m + 1 → f < m + 1 → sameE U' V' e (U' f) (V' f) → e = f := by
            intro e f he hf hs
            by_cases c1 : e = m
            · by_cases c2 : f = m
              · omega
              · exfalso
                subst c1
                unfold sameE at hs
                rw [hnew.1, hnew.2, (hold f (by omega)).1, (hold f (by omega)).2] at hs
                apply hno f (by omega)
                unfold sameE
                omega
            · by_cases c2 : f = m
              · exfalso
                subst c2
                rw [hsm e _ _ (by omega), hnew.1, hnew.2] at hs
                exact hno e (by omega) hs
              · rw [hsm e _ _ (by omega), (hold f (by omega)).1, (hold f (by omega)).2] at hs
                exact hd e f (by omega) (by omega) hs
          have hcnt := cnt_E hr2 hd2
          have h15 : cE (g ^^^ tieN a b) ≤ 15 := rk_le _ 15
          have hE2 : EA (m + 1) U' V' (upd d1 m (nI a)) (upd d2 m (nI b)) := by
            refine ⟨by omega, fun i hi => ?_⟩
            obtain ⟨q1, q2, q3⟩ := Rep_6 hr2 hi
            refine ⟨?_, ?_, q1, q2⟩
            · by_cases c : i = m
              · subst c; rw [up_s, hnew.1]
              · rw [up_n c, (hold i (by omega)).1]; exact (hE.2 i (by omega)).1
            · by_cases c : i = m
              · subst c; rw [up_s, hnew.2]
              · rw [up_n c, (hold i (by omega)).2]; exact (hE.2 i (by omega)).2.1
          rw [if_pos rfl, ck_15 (by omega), ck_15 (by omega), nI_clamp (by omega), nI_1, c_count N hr2.1, bd_s, bdc_r, ← hcnt]
          exact ⟨_, _, rfl, rfl, rfl, fun _ => updL0 o _, ⟨m + 1, U', V', _, rfl, rfl, hE2, hr2, hd2⟩⟩
    · rw [c_dot_f N hb, bd_s, if_pos rfl, bdc_l, if_pos rfl, in6f N hb, bd_s, if_pos b01f, fX5_edge_b24.eq_1, f_f', bd_s, if_neg b01t]
      exact ⟨_, _, rfl, rfl, rfl, fun z => absurd z one_ne0, h0⟩
  · rw [c_dot_f N hb, bd_s, if_pos rfl, bdc_l, if_pos rfl, in6f N hb, bd_s, if_pos b01f, fX5_edge_b24.eq_1, f_f', bd_s, if_neg b01t]
    exact ⟨_, _, rfl, rfl, rfl, fun z => absurd z one_ne0, h0⟩
/-! the sums -/
theorem in7t (N : Nat) {w : Nat} (h : w < 7) : fX5_in N (nI w) 0 6 = some (b01 true) := in_t (K := 7) N h (by omega)
theorem in7f (N : Nat) {x : Int32} (h : bad x 7) : fX5_in N x 0 6 = some (b01 false) := in_f (K := 7) N h (by omega)
theorem c_col_t (N : Nat) {w : Nat} (h : w < 7) : fX4_checkColours N (nI w) = some (.inr ()) := by
  rw [fX4_checkColours.eq_1, if_neg (idx_lt0 h (by omega)), if_pos (show nI w ≤ (6 : Int32) from nI_le' (b := 6) (by omega) (by omega))]
theorem c_col_f (N : Nat) {x : Int32} (h : bad x 7) : fX4_checkColours N x = some (.inl xIAE) := by
  rw [fX4_checkColours.eq_1]
  by_cases c : x < 0
  · rw [if_pos c]
  · rw [if_neg c, if_neg]
    intro z
    rcases h with h | h
    · exact c h
    · rw [show nI 7 = (7 : Int32) from rfl, Int32.le_iff_toInt_le, show (7 : Int32).toInt = 7 from by decide] at h
      rw [Int32.le_iff_toInt_le, show (6 : Int32).toInt = 6 from by decide] at z
      omega
theorem c_take (hN : 70000 ≤ N) (hG : Gd m U V d1 d2 g) (q : Int) : fX0_takeApart N (lN g) (iI q) = some (iI (tT q (eL U V 0 m) rid 1 6)) := by
  have hm := hG.1.1
  rw [fX0_takeApart.eq_1, show (6 : Int32) = iI 6 from rfl, show (0 : Int32) = nI 0 from rfl, c_apart hN q 16 (eL U V 0 m) g 6 0 hG.2.1 (by rw [eL_len]; omega) (by rw [eL_len]; omega) (by rw [eL_len]; omega), bd_s]
theorem o_colAnew {ge : Int64} {de : Int32} (h : GR ge de d1 d2) (hN : 70000 ≤ N) (g0 : Nat → Int32) (t0 : Int32) (o : Nat → Int64) (x1 : Int32) :
    ∃ u v, fL_colouringsAnew N ge o x1 = some u ∧ fX5_colouringsAnew N de d1 d2 g0 t0 x1 = some v ∧ v.2.2 = u.1 ∧ (u.1 = 0 → u.2 0 = Int32.toInt64 v.1) := by
  obtain ⟨m, U, V, g, rfl, rfl, hG⟩ := h
  rw [fL_colouringsAnew.eq_1, fX4_colouringsAnew.eq_1, fX5_colouringsAnew.eq_1]
  rcases idx x1 (K := 7) (by omega) with ⟨w, hw, rfl⟩ | hb
  · obtain ⟨dg', e⟩ := r_sum (N := N) hN hG.1 (w : Int) g0
    have e2 := c_take hN hG (w : Int)
    rw [iI_nI] at e e2
    rw [c_col_t N hw, bdx_r, e2, bd_s, bdc_r, in7t N hw, bd_s, f_t, bd_s, if_pos b01f, e, bd_s]
    exact ⟨_, _, rfl, rfl, rfl, fun _ => updL0 o _⟩
  · rw [c_col_f N hb, bdx_l, bdc_l, if_pos rfl, in7f N hb, bd_s, f_f, bd_s, if_neg b01t]
    exact ⟨_, _, rfl, rfl, rfl, fun z => absurd z one_ne0⟩
theorem o_dirAnew {ge : Int64} {de : Int32} (h : GR ge de d1 d2) (hN : 70000 ≤ N) (g0 : Nat → Int32) (t0 : Int32) :
    ∃ u v, fX4_directionsAnew N ge = some u ∧ fX5_directionsAnew N de d1 d2 g0 t0 = some v ∧ u = v.1 := by
  obtain ⟨m, U, V, g, rfl, rfl, hG⟩ := h
  obtain ⟨dg', e⟩ := r_sum (N := N) hN hG.1 (-1) g0
  have e2 := c_take hN hG (-1)
  rw [← iI_m1] at e e2
  rw [fX4_directionsAnew.eq_1, fX5_directionsAnew.eq_1, e, e2, bd_s, bd_s]
  exact ⟨_, _, rfl, rfl, rfl⟩
end GO
