/-! small methods that many use -/
theorem z_w1_w1 (M : z_Mi) (a i : Nat) (v w : Int32) : z_w1 (z_w1 M a i v) a i w = z_w1 M a i w := by
  funext b j
  rw [z_w1_r, z_w1_r, z_w1_r]
  by_cases h : b = a ∧ j = i <;> simp [h]
def rM (o : Option Int) : Int := o.getD 0
def rK (o : Option Int) : Int := if o.isSome then 0 else 1
theorem wf.b {A : aS} (h : wf A) : 0 ≤ A 2 0 ∧ A 2 0 ≤ 10 := h.1.2.2.1
theorem wf.r {A : aS} (h : wf A) : 0 ≤ A 3 0 ∧ A 3 0 ≤ 8 := h.1.2.2.2.1
section BASE
variable {p : Nat} {A : aS} {S : z_St}
theorem c_rqB (h : CI p A S) (hw : wf A) (v : Int) (h1 : -2147483648 ≤ v) (h2 : v < 2147483648) (d : Nat) : z_ew (d + 1) 100 [.ref 0, .int (iI v)] S = some (if 0 ≤ v ∧ v < A 2 0 then .inl none else .inr 0, S) := by
  have hb := hw.b
  rw [zx_100, h.p1, h.p2, h.p3, c_2 h, iI_0]
  simp only [zq_100_15, zq_100_26, cond_false, cond_true, iI_lt h1 h2 (show (-2147483648 : Int) ≤ 0 by decide) (by decide), iI_lt h1 h2 (show (-2147483648 : Int) ≤ A 2 0 by omega) (by omega)]
  by_cases q1 : v < 0
  · rw [if_pos q1, if_neg (by omega)]
  · rw [if_neg q1]
    by_cases q2 : v < A 2 0
    · rw [if_pos q2, if_pos (by omega)]
    · rw [if_neg q2, if_neg (by omega)]
theorem c_rqR (h : CI p A S) (hw : wf A) (v : Int) (h1 : -2147483648 ≤ v) (h2 : v < 2147483648) (d : Nat) : z_ew (d + 1) 101 [.ref 0, .int (iI v)] S = some (if 0 ≤ v ∧ v < A 3 0 then .inl none else .inr 0, S) := by
  have hb := hw.r
  rw [zx_101, h.p1, h.p2, h.p3, c_3 h, iI_0]
  simp only [zq_101_15, zq_101_26, cond_false, cond_true, iI_lt h1 h2 (show (-2147483648 : Int) ≤ 0 by decide) (by decide), iI_lt h1 h2 (show (-2147483648 : Int) ≤ A 3 0 by omega) (by omega)]
  by_cases q1 : v < 0
  · rw [if_pos q1, if_neg (by omega)]
  · rw [if_neg q1]
    by_cases q2 : v < A 3 0
    · rw [if_pos q2, if_pos (by omega)]
    · rw [if_neg q2, if_neg (by omega)]
theorem rb_b {q : Prop} [Decidable q] : z_rb (some .boolean) (iI (if q then 1 else 0)) = true := by
  by_cases h : q
  · rw [if_pos h]; exact rb_1
  · rw [if_neg h]; exact rb_0
theorem m_isB (h : S.1 70 2 = iI (A 2 0)) (hw : wf A) (v : Int) (h1 : -2147483648 ≤ v) (h2 : v < 2147483648) (d : Nat) : z_ew (d + 2) 113 [.ref 70, .int (iI v)] S = some (.inl (some (.int (iI (if 0 ≤ v ∧ v < A 2 0 then 1 else 0)))), S) := by
  have hb := hw.b
  rw [zx_113, h, iI_n, iI_n, iI_sub, zy_112 d v _ _ S h1 h2 (by decide) (by decide) (by omega) (by omega)]
  rw [cli_i, rb_b, cond_true]
  congr 5
  by_cases q : 0 ≤ v ∧ v < A 2 0
  · rw [if_pos q, if_pos (by omega)]
  · rw [if_neg q, if_neg (by omega)]
theorem m_isR (h : S.1 70 3 = iI (A 3 0)) (hw : wf A) (v : Int) (h1 : -2147483648 ≤ v) (h2 : v < 2147483648) (d : Nat) : z_ew (d + 2) 114 [.ref 70, .int (iI v)] S = some (.inl (some (.int (iI (if 0 ≤ v ∧ v < A 3 0 then 1 else 0)))), S) := by
  have hb := hw.r
  rw [zx_114, h, iI_n, iI_n, iI_sub, zy_112 d v _ _ S h1 h2 (by decide) (by decide) (by omega) (by omega)]
  rw [cli_i, rb_b, cond_true]
  congr 5
  by_cases q : 0 ≤ v ∧ v < A 3 0
  · rw [if_pos q, if_pos (by omega)]
  · rw [if_neg q, if_neg (by omega)]
theorem b01 {q : Prop} [Decidable q] : (iI (if q then 1 else 0) = 0) ↔ ¬ q := by
  rw [iI_0]
  by_cases h : q
  · rw [if_pos h, iI_eq (by decide) (by decide) (by decide) (by decide)]; simp [h]
  · rw [if_neg h, iI_eq (by decide) (by decide) (by decide) (by decide)]; simp [h]
theorem m_count (h : MI A S) (v : Int) (h1 : -2147483648 ≤ v) (h2 : v < 2147483648) (d : Nat) : z_ew (d + 3) 140 [.ref 70, .int (iI v)] S = some (.inl (some (.int (iI (rM (q_count A v))))), (z_w1 S.1 70 1 (iI (rK (q_count A v))), S.2)) := by
  rw [zx_140, iI_n, iI_n, iI_n, zy_112 (d + 1) v _ _ _ h1 h2 (by decide) (by decide) (by decide) (by decide), cli_i]
  by_cases q : 7 ≤ v ∧ v < 12
  · obtain ⟨k, hk⟩ : ∃ k : Nat, v = k + 7 := ⟨(v - 7).toNat, by omega⟩
    subst hk
    rw [if_neg (by rw [b01]; omega), iI_sub]
    have e : (k : Int) + 7 - ((7 : Nat) : Int) = k := by omega
    rw [e, iI_ixt (by omega) (by omega) (by decide), iI_t (by omega) (by omega), Int.toNat_natCast]
    have e2 : z_w1 S.1 70 1 (iI ((0 : Nat) : Int)) 80 k = iI (A 39 k) := by
      rw [z_w1_r, if_neg (by omega)]
      exact m_39 h (by omega)
    have e3 : q_count A ((k : Int) + 7) = some (A 39 k) := by
      unfold q_count
      rw [if_neg (by omega), if_neg (by omega), if_neg (by omega), if_neg (by omega), if_neg (by omega), if_neg (by omega), if_neg (by omega), if_pos q]
      have e3 : ((k : Int) + 7 - 7).toNat = k := by omega
      rw [e3]
    dsimp only
    rw [e3, e2]
    rfl
  · rw [if_pos (by rw [b01]; omega), zq_140_26]
    by_cases hv : v < 0 ∨ 6 < v
    · rw [sw_out (iI_i h1 h2) hv]
      show z_R140 (d + 2) 999998 103 0 _ _ _ = _
      have hq : q_count A v = none := by
        unfold q_count
        rw [if_neg (by omega), if_neg (by omega), if_neg (by omega), if_neg (by omega), if_neg (by omega), if_neg (by omega), if_neg (by omega), if_neg q]
      rw [zq_140_103, zx_111, cli_i, hq, z_w1_w1]
      rfl
    · have hv2 : v = 0 ∨ v = 1 ∨ v = 2 ∨ v = 3 ∨ v = 4 ∨ v = 5 ∨ v = 6 := by omega
      have f2 := m_2 h
      have f3 := m_3 h
      have f4 := m_4 h
      have f6 := m_6 h
      have f7 := m_7 h
      have f0 := m_0 h
      have f5 := m_5 h
      rcases hv2 with rfl | rfl | rfl | rfl | rfl | rfl | rfl
      · rw [sw_in (iI_i h1 h2) hv rfl]
        show z_R140 (d + 2) 999998 68 0 _ _ _ = _
        rw [zq_140_68]; dsimp only; rw [z_w1_r, if_neg (by decide), f2]; rfl
      · rw [sw_in (iI_i h1 h2) hv rfl]
        show z_R140 (d + 2) 999998 73 0 _ _ _ = _
        rw [zq_140_73]; dsimp only; rw [z_w1_r, if_neg (by decide), f3]; rfl
      · rw [sw_in (iI_i h1 h2) hv rfl]
        show z_R140 (d + 2) 999998 78 0 _ _ _ = _
        rw [zq_140_78]; dsimp only; rw [z_w1_r, if_neg (by decide), f4]; rfl
      · rw [sw_in (iI_i h1 h2) hv rfl]
        show z_R140 (d + 2) 999998 83 0 _ _ _ = _
        rw [zq_140_83]; dsimp only; rw [z_w1_r, if_neg (by decide), f6]; rfl
      · rw [sw_in (iI_i h1 h2) hv rfl]
        show z_R140 (d + 2) 999998 88 0 _ _ _ = _
        rw [zq_140_88]; dsimp only; rw [z_w1_r, if_neg (by decide), f7]; rfl
      · rw [sw_in (iI_i h1 h2) hv rfl]
        show z_R140 (d + 2) 999998 93 0 _ _ _ = _
        rw [zq_140_93]; dsimp only; rw [z_w1_r, if_neg (by decide), f0]; rfl
      · rw [sw_in (iI_i h1 h2) hv rfl]
        show z_R140 (d + 2) 999998 98 0 _ _ _ = _
        rw [zq_140_98]; dsimp only; rw [z_w1_r, if_neg (by decide), f5]; rfl
end BASE
