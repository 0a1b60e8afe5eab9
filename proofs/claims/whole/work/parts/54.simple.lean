/-! slip, ahead, lent, reader, turn -/
theorem ixN {k n : Nat} (h : k < n) (hn : n ≤ 2147483648) : z_ix (iI (k : Int)) n = true := iI_ixt (by omega) (by omega) hn
theorem tN {k : Nat} (h : k < 2147483648) : (iI (k : Int)).toNatClampNeg = k := by rw [iI_t (by omega) (by omega), Int.toNat_natCast]
theorem z00 : iI 0 = 0 := rfl
theorem n10 : ¬ iI 1 = 0 := by decide +kernel
theorem wf.P {A : aS} (h : wf A) : PW A := h.1
theorem wf.L {A : aS} (h : wf A) : LW A A := h.2.1
section SIM
variable {p : Nat} {A : aS} {S : z_St}
theorem rqB1 (h : CI p A S) (hw : wf A) {k : Nat} (hk : (k : Int) < A 2 0) (d : Nat) : z_ew (d + 1) 100 [.ref 0, .int (iI k)] S = some (.inl none, S) := by
  have hb := hw.b
  rw [c_rqB h hw k (by omega) (by omega), if_pos ⟨by omega, hk⟩]
theorem rqB0 (h : CI p A S) (hw : wf A) {v : Int} (h1 : -2147483648 ≤ v) (h2 : v < 2147483648) (hq : ¬ (0 ≤ v ∧ v < A 2 0)) (d : Nat) : z_ew (d + 1) 100 [.ref 0, .int (iI v)] S = some (.inr 0, S) := by
  rw [c_rqB h hw v h1 h2, if_neg hq]
theorem rqR1 (h : CI p A S) (hw : wf A) {k : Nat} (hk : (k : Int) < A 3 0) (d : Nat) : z_ew (d + 1) 101 [.ref 0, .int (iI k)] S = some (.inl none, S) := by
  have hb := hw.r
  rw [c_rqR h hw k (by omega) (by omega), if_pos ⟨by omega, hk⟩]
theorem rqR0 (h : CI p A S) (hw : wf A) {v : Int} (h1 : -2147483648 ≤ v) (h2 : v < 2147483648) (hq : ¬ (0 ≤ v ∧ v < A 3 0)) (d : Nat) : z_ew (d + 1) 101 [.ref 0, .int (iI v)] S = some (.inr 0, S) := by
  rw [c_rqR h hw v h1 h2, if_neg hq]
theorem isB1 (h : MI A S) (hw : wf A) {k : Nat} (hk : (k : Int) < A 2 0) (d : Nat) : z_ew (d + 2) 113 [.ref 70, .int (iI k)] S = some (.inl (some (.int (iI 1))), S) := by
  have hb := hw.b
  rw [m_isB (m_2 h) hw k (by omega) (by omega), if_pos ⟨by omega, hk⟩]
theorem isB0 (h : MI A S) (hw : wf A) {v : Int} (h1 : -2147483648 ≤ v) (h2 : v < 2147483648) (hq : ¬ (0 ≤ v ∧ v < A 2 0)) (d : Nat) : z_ew (d + 2) 113 [.ref 70, .int (iI v)] S = some (.inl (some (.int (iI 0))), S) := by
  rw [m_isB (m_2 h) hw v h1 h2, if_neg hq]
theorem isR1 (h : MI A S) (hw : wf A) {k : Nat} (hk : (k : Int) < A 3 0) (d : Nat) : z_ew (d + 2) 114 [.ref 70, .int (iI k)] S = some (.inl (some (.int (iI 1))), S) := by
  have hb := hw.r
  rw [m_isR (m_3 h) hw k (by omega) (by omega), if_pos ⟨by omega, hk⟩]
theorem isR0 (h : MI A S) (hw : wf A) {v : Int} (h1 : -2147483648 ≤ v) (h2 : v < 2147483648) (hq : ¬ (0 ≤ v ∧ v < A 3 0)) (d : Nat) : z_ew (d + 2) 114 [.ref 70, .int (iI v)] S = some (.inl (some (.int (iI 0))), S) := by
  rw [m_isR (m_3 h) hw v h1 h2, if_neg hq]
theorem cel (d r b : Nat) (S : z_St) : z_ew (d + 1) 103 [.int (iI r), .int (iI b)] S = some (.inl (some (.int (iI ((r * 10 + b : Nat) : Int)))), S) := by
  rw [zx_103, iI_n, iI_mul, iI_add]
  congr 5
theorem pai (d r b : Nat) (S : z_St) : z_ew (d + 1) 141 [.int (iI r), .int (iI b)] S = some (.inl (some (.int (iI ((8 * b + r : Nat) : Int)))), S) := by
  rw [zx_141, iI_n, iI_mul, iI_add]
  congr 5
def okR (A : aS) (v : Int) : Prop := 0 ≤ v ∧ v < A 3 0
def okB (A : aS) (v : Int) : Prop := 0 ≤ v ∧ v < A 2 0
theorem okR.n {v : Int} (h : okR A v) : ∃ k : Nat, v = k ∧ (k : Int) < A 3 0 := ⟨v.toNat, by have := h.1; omega, by have := h.1; have := h.2; omega⟩
theorem okB.n {v : Int} (h : okB A v) : ∃ k : Nat, v = k ∧ (k : Int) < A 2 0 := ⟨v.toNat, by have := h.1; omega, by have := h.1; have := h.2; omega⟩
/-! slip -/
end SIM
section SIM2
variable {p : Nat} {A : aS} {S : z_St}
def q_slip (A : aS) (r b : Int) : Option Int := if 0 ≤ r ∧ r < A 3 0 ∧ 0 ≤ b ∧ b < A 2 0 then some (A 22 (8 * b + r).toNat) else none
theorem q_slip1 {r b : Nat} (hr : (r : Int) < A 3 0) (hb : (b : Int) < A 2 0) : q_slip A r b = some (A 22 (8 * b + r)) := by
  unfold q_slip
  rw [if_pos ⟨by omega, hr, by omega, hb⟩]
  congr 2
theorem c_slip (h : CI p A S) (hw : wf A) (r b : Int) (h1 : -2147483648 ≤ r) (h2 : r < 2147483648) (h3 : -2147483648 ≤ b) (h4 : b < 2147483648) (d : Nat) : z_ew (d + 2) 83 [.ref 0, .int (iI r), .int (iI b)] S = some (rC 0 (q_slip A r b), S) := by
  have hb := hw.b
  have hr := hw.r
  rw [zx_83]
  by_cases q1 : 0 ≤ r ∧ r < A 3 0
  · obtain ⟨r, rfl, k1⟩ := okR.n q1
    rw [rqR1 h hw k1, clv_v]
    by_cases q2 : 0 ≤ b ∧ b < A 2 0
    · obtain ⟨b, rfl, k2⟩ := okB.n q2
      rw [rqB1 h hw k2, clv_v, cel, cli_i, ixN (by omega) (by decide), cond_true, tN (by omega), c_22 h (by omega) (by omega), q_slip1 k1 k2]
      rfl
    · rw [rqB0 h hw h3 h4 q2, clv_x, hnd_0, q_slip, if_neg (by omega)]
      rfl
  · rw [rqR0 h hw h1 h2 q1, clv_x, hnd_0, q_slip, if_neg (by omega)]
    rfl
theorem m_slip (h : MI A S) (hw : wf A) (r b : Int) (h1 : -2147483648 ≤ r) (h2 : r < 2147483648) (h3 : -2147483648 ≤ b) (h4 : b < 2147483648) (d : Nat) : z_ew (d + 3) 155 [.ref 70, .int (iI r), .int (iI b)] S = some (.inl (some (.int (iI (rM (q_slip A r b))))), (z_w1 S.1 70 1 (iI (rK (q_slip A r b))), S.2)) := by
  have hb := hw.b
  have hr := hw.r
  have h0 : MI A (z_w1 S.1 70 1 (nI 0), S.2) := h.code hw
  rw [zx_155]
  by_cases q1 : 0 ≤ r ∧ r < A 3 0
  · obtain ⟨r, rfl, k1⟩ := okR.n q1
    rw [isR1 h0 hw k1, cli_i, if_neg n10]
    by_cases q2 : 0 ≤ b ∧ b < A 2 0
    · obtain ⟨b, rfl, k2⟩ := okB.n q2
      rw [isB1 h0 hw k2, cli_i, if_neg n10, pai, cli_i, ixN (by omega) (by decide), cond_true, tN (by omega), m_22 h0 (by omega), zq_155_39, q_slip1 k1 k2]
      rfl
    · rw [isB0 h0 hw h3 h4 q2, cli_i, if_pos z00, zq_155_34, zx_111, cli_i, zq_155_39, z_w1_w1, q_slip, if_neg (by omega)]
      rfl
  · rw [isR0 h0 hw h1 h2 q1, cli_i, if_pos z00, zq_155_34, zx_111, cli_i, zq_155_39, z_w1_w1, q_slip, if_neg (by omega)]
    rfl
theorem o_slip (a b : Int32) : OpW 198 155 [.int a, .int b] := by
  intro S ⟨p, A, hC, hM, hw⟩
  obtain ⟨v, h1, h2, rfl⟩ := iI_of a
  obtain ⟨u, h3, h4, rfl⟩ := iI_of b
  exact opW_mk (cm := 83) (fun _ _ e => w_198 e) (fun _ e => w_198x e) hw hM (c_slip hC hw v u h1 h2 h3 h4 997) (fC.rf S) hC hw (fun S2 h => mQ_same hw h (m_slip h hw v u h1 h2 h3 h4 997))
/-! ahead -/
def q_ahead (A : aS) (r o b : Int) : Option Int := if (0 ≤ r ∧ r < A 3 0 ∧ 0 ≤ o ∧ o < A 3 0 ∧ 0 ≤ b ∧ b < A 2 0) ∧ r ≠ o ∧ 0 < A 22 (8 * b + r).toNat ∧ 0 < A 22 (8 * b + o).toNat then some (A 22 (8 * b + r).toNat - A 22 (8 * b + o).toNat) else none
theorem pt {r b : Nat} : (8 * (b : Int) + r).toNat = 8 * b + r := by omega
theorem wf.s {A : aS} (h : wf A) {j : Nat} (hj : j < 80) : -1 ≤ A 22 j ∧ A 22 j ≤ 401 := (h.L.2.2.2.2.2.2.1 j hj).1
theorem c_ahead (h : CI p A S) (hw : wf A) (r o b : Int) (h1 : -2147483648 ≤ r) (h2 : r < 2147483648) (h5 : -2147483648 ≤ o) (h6 : o < 2147483648) (h3 : -2147483648 ≤ b) (h4 : b < 2147483648) (d : Nat) : z_ew (d + 2) 86 [.ref 0, .int (iI r), .int (iI o), .int (iI b)] S = some (rC 0 (q_ahead A r o b), S) := by
  have hb := hw.b
  have hr := hw.r
  rw [zx_86]
  by_cases q1 : 0 ≤ r ∧ r < A 3 0
  · obtain ⟨r, rfl, k1⟩ := okR.n q1
    rw [rqR1 h hw k1, clv_v]
    by_cases q3 : 0 ≤ o ∧ o < A 3 0
    · obtain ⟨o, rfl, k3⟩ := okR.n q3
      rw [rqR1 h hw k3, clv_v]
      by_cases q2 : 0 ≤ b ∧ b < A 2 0
      · obtain ⟨b, rfl, k2⟩ := okB.n q2
        have s1 := hw.s (j := 8 * b + r) (by omega)
        have s2 := hw.s (j := 8 * b + o) (by omega)
        rw [rqB1 h hw k2, clv_v, cel, cli_i, ixN (by omega) (by decide), cond_true, cel, cli_i, ixN (by omega) (by decide), cond_true, tN (by omega), tN (by omega), c_22 h (by omega) (by omega), c_22 h (by omega) (by omega), iI_n]
        simp only [zq_86_62, zq_86_72, iI_eq (show -2147483648 ≤ (r : Int) by omega) (by omega) (show -2147483648 ≤ (o : Int) by omega) (by omega), iI_lt (show -2147483648 ≤ A 22 (8 * b + r) by omega) (by omega) (show (-2147483648 : Int) ≤ ((1 : Nat) : Int) by decide) (by decide), iI_le (show (-2147483648 : Int) ≤ ((1 : Nat) : Int) by decide) (by decide) (show -2147483648 ≤ A 22 (8 * b + o) by omega) (by omega), iI_sub]
        unfold q_ahead
        rw [pt, pt]
        by_cases g1 : (r : Int) = o
        · rw [if_pos g1, if_neg (by omega)]; rfl
        · rw [if_neg g1]
          by_cases g2 : A 22 (8 * b + r) < ((1 : Nat) : Int)
          · rw [if_pos g2, if_neg (by omega)]; rfl
          · rw [if_neg g2]
            by_cases g3 : ((1 : Nat) : Int) ≤ A 22 (8 * b + o)
            · rw [if_pos g3, if_pos (by omega)]; rfl
            · rw [if_neg g3, if_neg (by omega)]; rfl
      · rw [rqB0 h hw h3 h4 q2, clv_x, hnd_0, q_ahead, if_neg (by omega)]
        rfl
    · rw [rqR0 h hw h5 h6 q3, clv_x, hnd_0, q_ahead, if_neg (by omega)]
      rfl
  · rw [rqR0 h hw h1 h2 q1, clv_x, hnd_0, q_ahead, if_neg (by omega)]
    rfl
theorem m_ahead (h : MI A S) (hw : wf A) (r o b : Int) (h1 : -2147483648 ≤ r) (h2 : r < 2147483648) (h5 : -2147483648 ≤ o) (h6 : o < 2147483648) (h3 : -2147483648 ≤ b) (h4 : b < 2147483648) (d : Nat) : z_ew (d + 3) 159 [.ref 70, .int (iI r), .int (iI o), .int (iI b)] S = some (.inl (some (.int (iI (rM (q_ahead A r o b))))), (z_w1 S.1 70 1 (iI (rK (q_ahead A r o b))), S.2)) := by
  have hb := hw.b
  have hr := hw.r
  have h0 : MI A (z_w1 S.1 70 1 (nI 0), S.2) := h.code hw
  have hF : ∀ (n z : Nat) (x y w : Option Value), q_ahead A r o b = none → z_R159 (d + 2) (n + 1) 60 z [some (.ref 70), x, y, w] [] (z_w1 S.1 70 1 (nI 0), S.2) = some (.inl (some (.int (iI (rM (q_ahead A r o b))))), (z_w1 S.1 70 1 (iI (rK (q_ahead A r o b))), S.2)) := by
    intro n z x y w hq
    rw [zq_159_60, zx_111, cli_i, z_w1_w1, hq]
    rfl
  rw [zx_159]
  by_cases q1 : 0 ≤ r ∧ r < A 3 0
  · obtain ⟨r, rfl, k1⟩ := okR.n q1
    rw [isR1 h0 hw k1, cli_i, if_neg n10]
    by_cases q3 : 0 ≤ o ∧ o < A 3 0
    · obtain ⟨o, rfl, k3⟩ := okR.n q3
      rw [isR1 h0 hw k3, cli_i, if_neg n10]
      by_cases q2 : 0 ≤ b ∧ b < A 2 0
      · obtain ⟨b, rfl, k2⟩ := okB.n q2
        have s1 := hw.s (j := 8 * b + r) (by omega)
        have s2 := hw.s (j := 8 * b + o) (by omega)
        rw [isB1 h0 hw k2, cli_i, if_neg n10]
        by_cases g1 : (r : Int) = o
        · rw [if_pos (by rw [g1])]
          exact hF _ _ _ _ _ (by unfold q_ahead; rw [if_neg (by omega)])
        · rw [if_neg (by rw [iI_eq (by omega) (by omega) (by omega) (by omega)]; exact g1), pai, cli_i, ixN (by omega) (by decide), cond_true, tN (by omega), m_22 h0 (by omega), iI_0]
          by_cases g2 : A 22 (8 * b + r) ≤ 0
          · rw [if_pos (by rw [iI_le (by omega) (by omega) (by omega) (by omega)]; exact g2)]
            exact hF _ _ _ _ _ (by unfold q_ahead; rw [pt, pt, if_neg (by omega)])
          · rw [if_neg (by rw [iI_le (by omega) (by omega) (by omega) (by omega)]; exact g2), pai, cli_i, ixN (by omega) (by decide), cond_true, tN (by omega), m_22 h0 (by omega)]
            by_cases g3 : 0 < A 22 (8 * b + o)
            · rw [if_pos (by rw [iI_lt (by omega) (by omega) (by omega) (by omega)]; exact g3), zq_159_66, pai, cli_i, ixN (by omega) (by decide), cond_true, pai, cli_i, ixN (by omega) (by decide), cond_true, tN (by omega), tN (by omega), m_22 h0 (by omega), m_22 h0 (by omega), iI_sub]
              have hq : q_ahead A r o b = some (A 22 (8 * b + r) - A 22 (8 * b + o)) := by unfold q_ahead; rw [pt, pt, if_pos (by omega)]
              rw [hq]
              rfl
            · rw [if_neg (by rw [iI_lt (by omega) (by omega) (by omega) (by omega)]; exact g3)]
              exact hF _ _ _ _ _ (by unfold q_ahead; rw [pt, pt, if_neg (by omega)])
      · rw [isB0 h0 hw h3 h4 q2, cli_i, if_pos z00]
        exact hF _ _ _ _ _ (by unfold q_ahead; rw [if_neg (by omega)])
    · rw [isR0 h0 hw h5 h6 q3, cli_i, if_pos z00]
      exact hF _ _ _ _ _ (by unfold q_ahead; rw [if_neg (by omega)])
  · rw [isR0 h0 hw h1 h2 q1, cli_i, if_pos z00]
    exact hF _ _ _ _ _ (by unfold q_ahead; rw [if_neg (by omega)])
theorem o_ahead (a b c : Int32) : OpW 201 159 [.int a, .int b, .int c] := by
  intro S ⟨p, A, hC, hM, hw⟩
  obtain ⟨v, h1, h2, rfl⟩ := iI_of a
  obtain ⟨u, h3, h4, rfl⟩ := iI_of b
  obtain ⟨t, h5, h6, rfl⟩ := iI_of c
  exact opW_mk (cm := 86) (fun _ _ e => w_201 e) (fun _ e => w_201x e) hw hM (c_ahead hC hw v u t h1 h2 h3 h4 h5 h6 997) (fC.rf S) hC hw (fun S2 h => mQ_same hw h (m_ahead h hw v u t h1 h2 h3 h4 h5 h6 997))
end SIM2
