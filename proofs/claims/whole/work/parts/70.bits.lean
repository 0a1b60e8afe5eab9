/-! bits of small sets, the greater and the lesser of two -/
def mxI (a b : Int) : Int := if a < b then b else a
def mnI (a b : Int) : Int := if b < a then b else a
theorem zy_187 (d : Nat) (a b : Int) (S : z_St) (h1 : -2147483648 ≤ a) (h2 : a < 2147483648) (h3 : -2147483648 ≤ b) (h4 : b < 2147483648) : z_ew (d + 1) 187 [.int (iI a), .int (iI b)] S = some (.inl (some (.int (iI (mxI a b)))), S) := by
  unfold mxI
  rw [zx_187]
  by_cases q : a < b
  · rw [if_pos (by rw [iI_lt h1 h2 h3 h4]; exact q), zq_187_9, zq_187_10, if_pos q]
  · rw [if_neg (by rw [iI_lt h1 h2 h3 h4]; exact q), zq_187_10, if_neg q]
theorem zy_188 (d : Nat) (a b : Int) (S : z_St) (h1 : -2147483648 ≤ a) (h2 : a < 2147483648) (h3 : -2147483648 ≤ b) (h4 : b < 2147483648) : z_ew (d + 1) 188 [.int (iI a), .int (iI b)] S = some (.inl (some (.int (iI (mnI a b)))), S) := by
  unfold mnI
  rw [zx_188]
  by_cases q : b < a
  · rw [if_pos (by rw [iI_lt h3 h4 h1 h2]; exact q), zq_188_9, zq_188_10, if_pos q]
  · rw [if_neg (by rw [iI_lt h3 h4 h1 h2]; exact q), zq_188_10, if_neg q]
theorem bit_t : ∀ u, u < 128 → ∀ i, i < 8 → (iI ((u : Nat) : Int) >>> (iI ((i : Nat) : Int) &&& 31)) &&& nI 1 = iI (if u.testBit i = true then 1 else 0) := by decide +kernel
theorem bit_s : ∀ u, u < 128 → ∀ i, i < 7 → iI ((u : Nat) : Int) ||| (nI 1 <<< (iI ((i : Nat) : Int) &&& 31)) = iI ((u ||| 2 ^ i : Nat) : Int) := by decide +kernel
theorem or_lt {u i : Nat} (h : u < 128) (hi : i < 7) : u ||| 2 ^ i < 128 := by
  have h1 : 2 ^ i < 2 ^ 7 := Nat.pow_lt_pow_right (by decide) hi
  exact Nat.or_lt_two_pow (n := 7) h h1
theorem tb_or (u i j : Nat) : (u ||| 2 ^ i).testBit j = if j = i then true else u.testBit j := by
  rw [Nat.testBit_or, Nat.testBit_two_pow]
  by_cases h : j = i
  · subst h
    simp
  · have : ¬ i = j := fun e => h e.symm
    simp [h, this]
theorem b10 {q : Prop} [Decidable q] : (iI (if q then 1 else 0) = nI 1) ↔ q := by
  by_cases h : q
  · rw [if_pos h]
    exact ⟨fun _ => h, fun _ => rfl⟩
  · rw [if_neg h]
    exact ⟨fun e => absurd e (by decide +kernel), fun e => absurd e h⟩
