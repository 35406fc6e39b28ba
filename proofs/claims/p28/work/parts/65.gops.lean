/-! ===== edge, colouringsAnew, directionsAnew ===== -/
section GO
def sameE (U V : Nat → Nat) (e a b : Nat) : Prop := (U e = a ∧ V e = b) ∨ (U e = b ∧ V e = a)
def Gd (m : Nat) (U V : Nat → Nat) (d1 d2 : Nat → Int32) (g : Nat) : Prop := EA m U V d1 d2 ∧ Rep (eL U V 0 m) g ∧ ∀ e f, e < m → f < m → sameE U V e (U f) (V f) → e = f
def GR (ge : Int64) (de : Int32) (d1 d2 : Nat → Int32) : Prop := ∃ m U V g, ge = lN g ∧ de = nI m ∧ Gd m U V d1 d2 g
theorem same_u {U V : Nat → Nat} {e a b x y : Nat} (h1 : sameE U V e a b) (h2 : sameE U V e x y) : (x = a ∧ y = b) ∨ (x = b ∧ y = a) := by
  unfold sameE at h1 h2
  omega
theorem same_c {U V : Nat → Nat} {e a b x y : Nat} (h : (x = a ∧ y = b) ∨ (x = b ∧ y = a)) : sameE U V e x y ↔ sameE U V e a b := by
  unfold sameE
  omega
variable {N : Nat} {U V : Nat → Nat} {d1 d2 : Nat → Int32} {m g : Nat}
theorem inE_iff (U V : Nat → Nat) (m a b : Nat) : inE (a, b) (eL U V 0 m) ↔ ∃ e, e < m ∧ sameE U V e a b := by
  unfold inE
  rw [eL_mem, eL_mem]
  constructor
  · rintro (⟨i, h1, h2, h3⟩ | ⟨i, h1, h2, h3⟩)
    · rw [Prod.mk.injEq] at h3
      exact ⟨i, by omega, Or.inl ⟨h3.1.symm, h3.2.symm⟩⟩
    · rw [Prod.mk.injEq] at h3
      exact ⟨i, by omega, Or.inr ⟨h3.1.symm, h3.2.symm⟩⟩
  · rintro ⟨i, h1, ⟨h2, h3⟩ | ⟨h2, h3⟩⟩
    · exact Or.inl ⟨i, by omega, by omega, by rw [h2, h3]⟩
    · exact Or.inr ⟨i, by omega, by omega, by rw [h2, h3]⟩
theorem Rep_of {U V : Nat → Nat} {m g : Nat} (hg : g < 2 ^ 36) (h6 : ∀ e, e < m → U e < 6 ∧ V e < 6 ∧ U e ≠ V e) (ha : ∀ a b, a < 6 → b < 6 → (ad g a b = true ↔ ∃ e, e < m ∧ sameE U V e a b)) : Rep (eL U V 0 m) g := by
  refine ⟨⟨hg, fun a b h1 h2 h => ?_⟩, fun e he => ?_, fun a b h1 h2 => by rw [inE_iff]; exact ha a b h1 h2⟩
  · obtain ⟨e, h3, h4⟩ := (ha a b h1 h2).mp h
    refine ⟨(ha b a h2 h1).mpr ⟨e, h3, h4.symm⟩, ?_⟩
    obtain ⟨-, -, h7⟩ := h6 e h3
    rcases h4 with ⟨w1, w2⟩ | ⟨w1, w2⟩ <;> omega
  · obtain ⟨i, -, h2, rfl⟩ := (eL_mem U V e m 0).mp he
    exact h6 i (by omega)
theorem Rep_6 (h : Rep (eL U V 0 m) g) {e : Nat} (he : e < m) : U e < 6 ∧ V e < 6 ∧ U e ≠ V e := h.2.1 (U e, V e) ((eL_mem U V _ m 0).mpr ⟨e, by omega, by omega, rfl⟩)
theorem Rep_ad (h : Rep (eL U V 0 m) g) {a b : Nat} (ha : a < 6) (hb : b < 6) : ad g a b = true ↔ ∃ e, e < m ∧ sameE U V e a b := by
  rw [h.2.2 a b ha hb, inE_iff]
/-- as many EDGES as rows say -/
theorem cnt_E (hr : Rep (eL U V 0 m) g) (hd : ∀ e f, e < m → f < m → sameE U V e (U f) (V f) → e = f) : m = cE g := by
  apply Nat.le_antisymm
  · have hall : rk (fun _ => true) m = m := by
      have : ∀ m, rk (fun _ => true) m = m := fun m => by
        induction m with
        | zero => rfl
        | succ m ih => rw [rk_s, ih]; rfl
      exact this m
    rw [← hall]
    have hex : ∀ e, ∃ i, e < m → i < 15 ∧ ((pA i = U e ∧ pB i = V e) ∨ (pA i = V e ∧ pB i = U e)) := by
      intro e
      by_cases he : e < m
      · obtain ⟨h1, h2, h3⟩ := Rep_6 hr he
        rcases Nat.lt_trichotomy (U e) (V e) with c | c | c
        · obtain ⟨i, hi, e1, e2⟩ := p_ex _ h1 _ h2 c
          exact ⟨i, fun _ => ⟨hi, Or.inl ⟨e1, e2⟩⟩⟩
        · exact absurd c h3
        · obtain ⟨i, hi, e1, e2⟩ := p_ex _ h2 _ h1 c
          exact ⟨i, fun _ => ⟨hi, Or.inr ⟨e1, e2⟩⟩⟩
      · exact ⟨0, fun z => absurd z he⟩
    refine pig2 (f := fun e => Classical.choose (hex e)) (fun e he _ => ?_) (fun e f he hf _ _ hef => ?_)
    · obtain ⟨h1, h2⟩ := Classical.choose_spec (hex e) he
      obtain ⟨q1, q2, -⟩ := pAB _ h1
      refine ⟨h1, ?_⟩
      rw [Rep_ad hr q1 q2]
      refine ⟨e, he, ?_⟩
      rcases h2 with ⟨w1, w2⟩ | ⟨w1, w2⟩
      · exact Or.inl ⟨w1.symm, w2.symm⟩
      · exact Or.inr ⟨w2.symm, w1.symm⟩
    · obtain ⟨h1, h2⟩ := Classical.choose_spec (hex e) he
      obtain ⟨h3, h4⟩ := Classical.choose_spec (hex f) hf
      rw [hef] at h2
      apply hd e f he hf
      unfold sameE
      omega
  · have hex : ∀ i, ∃ e, i < 15 → ad g (pA i) (pB i) = true → e < m ∧ sameE U V e (pA i) (pB i) := by
      intro i
      by_cases hi : i < 15
      · by_cases hb : ad g (pA i) (pB i) = true
        · obtain ⟨q1, q2, -⟩ := pAB i hi
          obtain ⟨e, h1, h2⟩ := (Rep_ad hr q1 q2).mp hb
          exact ⟨e, fun _ _ => ⟨h1, h2⟩⟩
        · exact ⟨0, fun _ z => absurd z hb⟩
      · exact ⟨0, fun z => absurd z hi⟩
    unfold cE
    refine pig (f := fun i => Classical.choose (hex i)) m _ (fun i hi hb => (Classical.choose_spec (hex i) hi hb).1) (fun i j hi hj hbi hbj hij => ?_)
    obtain ⟨h1, h2⟩ := Classical.choose_spec (hex i) hi hbi
    obtain ⟨h3, h4⟩ := Classical.choose_spec (hex j) hj hbj
    rw [hij] at h2
    obtain ⟨-, -, q3⟩ := pAB i hi
    obtain ⟨-, -, q4⟩ := pAB j hj
    apply p_inj i hi j hj
    · unfold sameE at h2 h4; omega
    · unfold sameE at h2 h4; omega
theorem tog_t {a b x y : Nat} (ha : a < 6) (hb : b < 6) (hx : x < 6) (hy : y < 6) : ad (g ^^^ tieN a b) x y = true ↔ ¬ (ad g x y = true ↔ ((x = a ∧ y = b) ∨ (x = b ∧ y = a))) := by
  rw [ad_xor, ← tie_t ha hb hx hy]
  cases ad g x y <;> cases ad (tieN a b) x y <;> simp
theorem c_dot_t (N : Nat) {a : Nat} (h : a < 6) : fX4_isDot N (nI a) = some 1 := by
  rw [fX4_isDot.eq_1, if_neg (idx_lt0 h (by omega)), if_neg (show ¬ (6 : Int32) ≤ nI a from nI_nle' (b := 6) (by omega) h), zo_1]
theorem c_dot_f (N : Nat) {x : Int32} (h : bad x 6) : fX4_isDot N x = some 0 := by
  rw [fX4_isDot.eq_1]
  by_cases c : x < 0
  · rw [if_pos c, zo_0]
  · rw [if_neg c, if_pos (show (6 : Int32) ≤ x from h.resolve_left c), zo_0]
abbrev ER : Type := Int32 × Int32 × (Nat → Int32) × (Nat → Int32) × Int32
/-! the sums -/
theorem c_col_t (N : Nat) {w : Nat} (h : w < 7) : fX4_checkColours N (nI w) = some (.inr ()) := by
  rw [fX4_checkColours.eq_1, if_neg (idx_lt0 h (by omega)), if_pos (show nI w ≤ (6 : Int32) from nI_le' (b := 6) (by omega) (by omega))]
theorem c_col_f (N : Nat) {x : Int32} (h : bad x 7) : fX4_checkColours N x = some (.inl xIAE) := by
  rw [fX4_checkColours.eq_1]
  by_cases c : x < 0
  · rw [if_pos c]
  · rw [if_neg c, if_neg]
    intro z
    rcases h with h | h
    · exact c h
    · rw [show nI 7 = (7 : Int32) from rfl, Int32.le_iff_toInt_le, show (7 : Int32).toInt = 7 from by decide] at h
      rw [Int32.le_iff_toInt_le, show (6 : Int32).toInt = 6 from by decide] at z
      omega
theorem c_take (hN : 70000 ≤ N) (hG : Gd m U V d1 d2 g) (q : Int) : fX0_takeApart N (lN g) (iI q) = some (iI (tT q (eL U V 0 m) rid 1 6)) := by
  have hm := hG.1.1
  rw [fX0_takeApart.eq_1, show (6 : Int32) = iI 6 from rfl, show (0 : Int32) = nI 0 from rfl, c_apart hN q 16 (eL U V 0 m) g 6 0 hG.2.1 (by rw [eL_len]; omega) (by rw [eL_len]; omega) (by rw [eL_len]; omega), bd_s]
end GO

