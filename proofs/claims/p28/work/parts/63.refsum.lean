/-! ===== the reference's sum over sets of EDGES ===== -/
section RS
def eL (U V : Nat → Nat) : Nat → Nat → List (Nat × Nat)
  | _, 0 => []
  | e, k + 1 => (U e, V e) :: eL U V (e + 1) k
theorem eL_len (U V : Nat → Nat) : ∀ (k e : Nat), (eL U V e k).length = k
  | 0, _ => rfl
  | k + 1, e => by show (eL U V (e + 1) k).length + 1 = k + 1; rw [eL_len U V k]
theorem eL_mem (U V : Nat → Nat) (x : Nat × Nat) : ∀ (k e : Nat), x ∈ eL U V e k ↔ ∃ i, e ≤ i ∧ i < e + k ∧ x = (U i, V i)
  | 0, e => by
    constructor
    · intro h; cases h
    · rintro ⟨i, h1, h2, -⟩; omega
  | k + 1, e => by
    show x ∈ (U e, V e) :: eL U V (e + 1) k ↔ _
    rw [List.mem_cons, eL_mem U V x k (e + 1)]
    constructor
    · rintro (h | ⟨i, h1, h2, h3⟩)
      · exact ⟨e, Nat.le_refl e, by omega, h⟩
      · exact ⟨i, by omega, by omega, h3⟩
    · rintro ⟨i, h1, h2, h3⟩
      by_cases c : i = e
      · subst c; exact Or.inl h3
      · exact Or.inr ⟨i, by omega, by omega, h3⟩
theorem sh_l : ∀ n, n < 32 → ((nI n &&& 31).toBitVec.smod 32).toNat = n := by decide +kernel
theorem nI_shr {s e : Nat} (hs : s < 2147483648) (he : e < 32) : nI s >>> (nI e &&& 31) = nI (s / 2 ^ e) := by
  apply Int32.toBitVec.inj
  rw [Int32.toBitVec_shiftRight]
  show (BitVec.ofNat 32 s).sshiftRight ((nI e &&& 31).toBitVec.smod 32).toNat = BitVec.ofNat 32 (s / 2 ^ e)
  have hm : (BitVec.ofNat 32 s).toNat = s := by rw [BitVec.toNat_ofNat, Nat.mod_eq_of_lt (by omega)]
  rw [sh_l e he, BitVec.sshiftRight_eq_of_msb_false (by rw [BitVec.msb_eq_decide, hm, decide_eq_false_iff_not]; omega)]
  apply BitVec.eq_of_toNat_eq
  rw [BitVec.toNat_ushiftRight, hm, BitVec.toNat_ofNat, Nat.shiftRight_eq_div_pow, Nat.mod_eq_of_lt (Nat.lt_of_le_of_lt (Nat.div_le_self _ _) (by omega))]
theorem nI_odd (v : Nat) : (nI v &&& 1 = 1) ↔ v % 2 = 1 := by
  rw [show (1 : Int32) = nI (2 ^ 1 - 1) from rfl, nI_and, Nat.and_two_pow_sub_one_eq_mod]
  rw [show nI (2 ^ 1 - 1) = nI 1 from rfl, nI_eq (by have := Nat.mod_lt v (show 0 < 2 ^ 1 by decide); omega) (by omega)]
abbrev SR : Type := Int32 × (Nat → Int32)
variable {N : Nat} {U V : Nat → Nat} {d1 d2 : Nat → Int32} {m : Nat}
def EA (m : Nat) (U V : Nat → Nat) (d1 d2 : Nat → Int32) : Prop := m ≤ 15 ∧ ∀ e, e < m → d1 e = nI (U e) ∧ d2 e = nI (V e) ∧ U e < 6 ∧ V e < 6
def Ga (γ : Nat → Nat) (dg : Nat → Int32) : Prop := ∀ d, d < 6 → dg d = nI (γ d) ∧ γ d < 6
end RS

