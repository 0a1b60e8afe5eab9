/-! tokens of a text: the model's -/
def btM (T : Nat → Int) (n k : Nat) : Int := if k < n then T k else -1
def txM (T : Nat → Int) (n : Nat) (S : z_St) : Prop := S.1 70 19 = iI (n : Int) ∧ ∀ k, k < n → (0 ≤ T k ∧ T k ≤ 255) ∧ S.1 82 k = iI (T k)
section MTK
variable {S : z_St}
theorem txM.f {T : Nat → Int} {n : Nat} {S' : z_St} (h : txM T n S) (hf : ∀ i, S'.1 82 i = S.1 82 i) (h19 : S'.1 70 19 = S.1 70 19) : txM T n S' := ⟨h19.trans h.1, fun k hk => ⟨(h.2 k hk).1, (hf k).trans (h.2 k hk).2⟩⟩
theorem btM_r {T : Nat → Int} {n : Nat} (h : txM T n S) (k : Nat) : -1 ≤ btM T n k ∧ btM T n k ≤ 255 := by
  unfold btM
  split
  · rename_i hk
    have := (h.2 k hk).1
    omega
  · omega
theorem m_byt {T : Nat → Int} {n0 k : Nat} (hn0 : n0 ≤ 700) (h : txM T n0 S) (hk : k ≤ 700) (d : Nat) : z_ew (d + 1) 116 [.ref 70, .int (iI (k : Int))] S = some (.inl (some (.int (iI (btM T n0 k)))), S) := by
  rw [zx_116, h.1]
  unfold btM
  by_cases c : k < n0
  · rw [if_neg (by rw [iI_le (by omega) (by omega) (by omega) (by omega)]; omega), ixN (show k < 700 by omega) (by decide), cond_true, tN (by omega), (h.2 k c).2, zq_116_18, if_pos c]
  · rw [if_pos (by rw [iI_le (by omega) (by omega) (by omega) (by omega)]; omega), zq_116_17, zq_116_18, if_neg c]
    rfl
theorem m_isL {v : Int} (h : -1 ≤ v ∧ v ≤ 255) (d : Nat) : z_ew (d + 1) 117 [.int (iI v)] S = some (.inl (some (.int (bI (tkL v)))), S) := by
  rw [zx_117, iI_n 97, iI_n 122]
  unfold tkL
  by_cases q1 : v < 97
  · rw [if_pos (by rw [iI_lt (by omega) (by omega) (by decide) (by decide)]; exact q1), zq_117_16, zq_117_17, rbn0, cond_true, decide_eq_false (by omega)]
    rfl
  · rw [if_neg (by rw [iI_lt (by omega) (by omega) (by decide) (by decide)]; exact q1)]
    by_cases q2 : 122 < v
    · rw [if_pos (by rw [iI_lt (by decide) (by decide) (by omega) (by omega)]; exact q2), zq_117_16, zq_117_17, rbn0, cond_true, decide_eq_false (by omega)]
      rfl
    · rw [if_neg (by rw [iI_lt (by decide) (by decide) (by omega) (by omega)]; exact q2), zq_117_17, rbn1, cond_true, decide_eq_true (by omega)]
      rfl
theorem m_isD {v : Int} (h : -1 ≤ v ∧ v ≤ 255) (d : Nat) : z_ew (d + 1) 118 [.int (iI v)] S = some (.inl (some (.int (bI (tkD v)))), S) := by
  rw [zx_118, iI_n 48, iI_n 57]
  unfold tkD
  by_cases q1 : v < 48
  · rw [if_pos (by rw [iI_lt (by omega) (by omega) (by decide) (by decide)]; exact q1), zq_118_16, zq_118_17, rbn0, cond_true, decide_eq_false (by omega)]
    rfl
  · rw [if_neg (by rw [iI_lt (by omega) (by omega) (by decide) (by decide)]; exact q1)]
    by_cases q2 : 57 < v
    · rw [if_pos (by rw [iI_lt (by decide) (by decide) (by omega) (by omega)]; exact q2), zq_118_16, zq_118_17, rbn0, cond_true, decide_eq_false (by omega)]
      rfl
    · rw [if_neg (by rw [iI_lt (by decide) (by decide) (by omega) (by omega)]; exact q2), zq_118_17, rbn1, cond_true, decide_eq_true (by omega)]
      rfl
theorem m_isM {v : Int} (h : -1 ≤ v ∧ v ≤ 255) (d : Nat) : z_ew (d + 1) 119 [.int (iI v)] S = some (.inl (some (.int (bI (tkS v)))), S) := by
  have yes : ∀ n x, z_R119 d (n + 2) 54 0 [x] [] S = some (.inl (some (.int (iI 1))), S) := by
    intro n x
    rw [zq_119_54, zq_119_59, rbn1, cond_true]
    rfl
  have no : ∀ n x, z_R119 d (n + 2) 58 0 [x] [] S = some (.inl (some (.int (iI 0))), S) := by
    intro n x
    rw [zq_119_58, zq_119_59, rbn0, cond_true]
    rfl
  have e : ∀ k : Nat, k < 100 → (iI v = nI k ↔ v = k) := by
    intro k hk
    rw [iI_n, iI_eq (by omega) (by omega) (by omega) (by omega)]
  rw [zx_119]
  by_cases c : tkS v = true
  · have hc := of_decide_eq_true c
    rw [c]
    simp only [e 59 (by decide), e 40 (by decide), e 41 (by decide), e 43 (by decide), e 45 (by decide), e 42 (by decide), e 47 (by decide), e 60 (by decide), e 61 (by decide)]
    repeat' split
    all_goals first | exact yes 999997 _ | (exfalso; omega)
  · have hc : ¬ (v = 59 ∨ (40 ≤ v ∧ v ≤ 43) ∨ v = 45 ∨ v = 47 ∨ v = 60 ∨ v = 61) := fun z => c (decide_eq_true z)
    rw [Bool.eq_false_iff.mpr c, if_neg (by rw [e 59 (by decide)]; omega), if_neg (by rw [e 40 (by decide)]; omega), if_neg (by rw [e 41 (by decide)]; omega), if_neg (by rw [e 43 (by decide)]; omega), if_neg (by rw [e 45 (by decide)]; omega), if_neg (by rw [e 42 (by decide)]; omega), if_neg (by rw [e 47 (by decide)]; omega), if_neg (by rw [e 60 (by decide)]; omega), if_neg (by rw [e 61 (by decide)]; omega)]
    exact no 999997 _
end MTK
