/-! the greater, the smaller -/
theorem z_fuel_eq (k : Nat) (h : k ≤ 1000000) : z_fuel = (1000000 - k) + k := (Nat.sub_add_cancel h).symm
theorem z_maxv (d : Nat) (x y : Int32) (S : z_St) : z_ew (d + 1) 187 [.int x, .int y] S = some (.inl (some (.int (if x < y then y else x))), S) := by
  rw [ze_187 d _ _ rfl]
  show z_R187 d (999997 + 3) 0 0 [some (.int x), some (.int y)] [] S = _
  rw [zq_187_0]
  by_cases h : x < y
  · rw [if_pos h, zq_187_9, zq_187_10, if_pos h]
  · rw [if_neg h, zq_187_10, if_neg h]
theorem z_minv (d : Nat) (x y : Int32) (S : z_St) : z_ew (d + 1) 188 [.int x, .int y] S = some (.inl (some (.int (if y < x then y else x))), S) := by
  rw [ze_188 d _ _ rfl]
  show z_R188 d (999997 + 3) 0 0 [some (.int x), some (.int y)] [] S = _
  rw [zq_188_0]
  by_cases h : y < x
  · rw [if_pos h, zq_188_9, zq_188_10, if_pos h]
  · rw [if_neg h, zq_188_10, if_neg h]
theorem z_mx (d : Nat) : z_Mx d := by
  cases d with
  | zero => exact ⟨fun as S o S1 _ h => (by cases h), fun as S o S1 _ h => (by cases h)⟩
  | succ d =>
    constructor
    · intro as S o S1 hlen h
      match as, hlen with
      | [a, b], _ =>
        have hI : ∃ x y, a = .int x ∧ b = .int y := by
          cases a <;> cases b <;> first | exact ⟨_, _, rfl, rfl⟩ | cases h
        obtain ⟨x, y, rfl, rfl⟩ := hI
        rw [z_maxv] at h
        cases h
        exact ⟨x, y, rfl, rfl, rfl⟩
    · intro as S o S1 hlen h
      match as, hlen with
      | [a, b], _ =>
        have hI : ∃ x y, a = .int x ∧ b = .int y := by
          cases a <;> cases b <;> first | exact ⟨_, _, rfl, rfl⟩ | cases h
        obtain ⟨x, y, rfl, rfl⟩ := hI
        rw [z_minv] at h
        cases h
        exact ⟨x, y, rfl, rfl, rfl⟩
theorem z_sound {l : Launch} (hl0 : l.stackTraces = false) {B : Nat} {D : va_G} {ρ : Nat → Nat} {cA : Nat → ClassId} (hAp : z_Ap B ρ) (d : Nat) : z_IH l B D ρ cA d := z_ew_ok hl0 hAp (z_str l B D ρ cA) z_mx d
