/-! turn, lent, reader -/
section TUR
variable {p : Nat} {A : aS} {S : z_St}
def q_turn (A : aS) (v : Int) : Option Int := if 0 ≤ v ∧ v < A 9 0 then some (A 40 v.toNat) else none
theorem o_turn (a : Int32) : OpW 208 176 [.int a] := by
  intro S ⟨p, A, hC, hM, hw⟩
  obtain ⟨v, h1, h2, rfl⟩ := iI_of a
  have h9 : 0 ≤ A 9 0 ∧ A 9 0 ≤ 7 := hw.P.2.2.2.2.2.2.2.2.2.1
  refine opW_mk (cm := 94) (o := q_turn A v) (fun _ _ e => w_208 e) (fun _ e => w_208x e) hw hM (S1 := S) ?_ (fC.rf S) hC hw (fun S2 h => mQ_same hw h ?_)
  · rw [zx_94 998, c_9 hC, iI_0]
    by_cases q : 0 ≤ v ∧ v < A 9 0
    · obtain ⟨k, rfl⟩ : ∃ k : Nat, v = k := ⟨v.toNat, by omega⟩
      rw [if_neg (by rw [iI_lt h1 h2 (by decide) (by decide)]; omega), if_pos (by rw [iI_lt h1 h2 (by omega) (by omega)]; omega), zq_94_26, ixN (by omega) (by decide), cond_true, tN (by omega), c_40 hC (by omega), q_turn, if_pos q, Int.toNat_natCast]
      rfl
    · rw [q_turn, if_neg q]
      by_cases g : v < 0
      · rw [if_pos (by rw [iI_lt h1 h2 (by decide) (by decide)]; exact g), zq_94_15]
        rfl
      · rw [if_neg (by rw [iI_lt h1 h2 (by decide) (by decide)]; exact g), if_neg (by rw [iI_lt h1 h2 (by omega) (by omega)]; omega), zq_94_15]
        rfl
  · have h0 : MI A (z_w1 S2.1 70 1 (nI 0), S2.2) := h.code hw
    have ho : ∃ w : Int, S2.1 70 63 = iI w ∧ (w = A 9 0 ∨ w = -1 ∧ A 9 0 = 0) := by
      rcases h.2 with g | ⟨g, g2⟩
      · exact ⟨_, g, Or.inl rfl⟩
      · exact ⟨_, g, Or.inr ⟨rfl, g2⟩⟩
    obtain ⟨w, e1, e2⟩ := ho
    rw [zx_176 999, e1, iI_n 1, iI_sub]
    have e3 : ∀ X, z_ew 999 112 [.int (iI v), .int (nI 0), .int (iI (w - ((1 : Nat) : Int)))] X = some (.inl (some (.int (iI (if ((0 : Nat) : Int) ≤ v ∧ v ≤ w - ((1 : Nat) : Int) then 1 else 0)))), X) := fun X => by
      rw [iI_n 0]
      exact zy_112 998 v _ _ X h1 h2 (by decide) (by decide) (by omega) (by omega)
    rw [e3, cli_i]
    by_cases q : 0 ≤ v ∧ v < A 9 0
    · obtain ⟨k, rfl⟩ : ∃ k : Nat, v = k := ⟨v.toNat, by omega⟩
      rw [if_neg (by rw [b01]; omega), ixN (by omega) (by decide), cond_true, tN (by omega), m_40 h0 (by omega), zq_176_33, q_turn, if_pos q, Int.toNat_natCast]
      rfl
    · rw [if_pos (by rw [b01]; omega), zq_176_28, zx_111 998, cli_i, zq_176_33, z_w1_w1, q_turn, if_neg q]
      rfl
def q_lent (A : aS) (i w : Int) : Option Int := if 0 ≤ i ∧ i < A 4 0 ∧ 0 ≤ w ∧ w < 6 then some (A (26 + w.toNat) i.toNat) else none
theorem wf.l {A : aS} (h : wf A) : 0 ≤ A 4 0 ∧ A 4 0 ≤ 200 := h.L.1
theorem c_lrow (h : CI p A S) {i w : Nat} (hi : (i : Int) < A 4 0) (hw : w < 6) : S.1 25 (i * 6 + w) = iI (A (26 + w) i) := by
  have hw2 : w = 0 ∨ w = 1 ∨ w = 2 ∨ w = 3 ∨ w = 4 ∨ w = 5 := by omega
  rw [Nat.mul_comm]
  rcases hw2 with rfl | rfl | rfl | rfl | rfl | rfl
  · exact c_26 h hi
  · exact c_27 h hi
  · exact c_28 h hi
  · exact c_29 h hi
  · exact c_30 h hi
  · exact c_31 h hi
theorem o_lent (a b : Int32) : OpW 196 153 [.int a, .int b] := by
  intro S ⟨p, A, hC, hM, hw⟩
  obtain ⟨i, h1, h2, rfl⟩ := iI_of a
  obtain ⟨w, h3, h4, rfl⟩ := iI_of b
  have hl := hw.l
  refine opW_mk (cm := 81) (o := q_lent A i w) (fun _ _ e => w_196 e) (fun _ e => w_196x e) hw hM (S1 := S) ?_ (fC.rf S) hC hw (fun S2 h => mQ_same hw h ?_)
  · rw [zx_81 998, c_4 hC, iI_0, iI_n]
    simp only [zq_81_25, iI_lt h1 h2 (show (-2147483648 : Int) ≤ 0 by decide) (by decide), iI_le (show -2147483648 ≤ A 4 0 by omega) (by omega) h1 h2, iI_lt h3 h4 (show (-2147483648 : Int) ≤ 0 by decide) (by decide), iI_lt h3 h4 (show (-2147483648 : Int) ≤ ((6 : Nat) : Int) by decide) (by decide)]
    by_cases q : 0 ≤ i ∧ i < A 4 0 ∧ 0 ≤ w ∧ w < 6
    · rw [if_neg (by omega), if_neg (by omega), if_neg (by omega), if_pos (by omega)]
      obtain ⟨i, rfl⟩ : ∃ k : Nat, i = k := ⟨i.toNat, by omega⟩
      obtain ⟨w, rfl⟩ : ∃ k : Nat, w = k := ⟨w.toNat, by omega⟩
      rw [zq_81_35, iI_n, iI_mul, iI_add]
      have e : (i : Int) * ((6 : Nat) : Int) + (w : Int) = ((i * 6 + w : Nat) : Int) := by omega
      rw [e, ixN (by omega) (by decide), cond_true, tN (by omega), c_lrow hC (by omega) (by omega), q_lent, if_pos q, Int.toNat_natCast, Int.toNat_natCast]
      rfl
    · rw [q_lent, if_neg q]
      by_cases g1 : i < 0
      · rw [if_pos g1]; rfl
      · rw [if_neg g1]
        by_cases g2 : A 4 0 ≤ i
        · rw [if_pos g2]; rfl
        · rw [if_neg g2]
          by_cases g3 : w < 0
          · rw [if_pos g3]; rfl
          · rw [if_neg g3, if_neg (by omega)]; rfl
  · have h0 : MI A (z_w1 S2.1 70 1 (nI 0), S2.2) := h.code hw
    have e3 : ∀ X, z_ew 999 112 [.int (iI i), .int (nI 0), .int (iI (A 4 0 - ((1 : Nat) : Int)))] X = some (.inl (some (.int (iI (if ((0 : Nat) : Int) ≤ i ∧ i ≤ A 4 0 - ((1 : Nat) : Int) then 1 else 0)))), X) := fun X => by
      rw [iI_n 0]
      exact zy_112 998 i _ _ X h1 h2 (by decide) (by decide) (by omega) (by omega)
    rw [zx_153 999, m_4 h, iI_n 1, iI_sub, e3, cli_i]
    by_cases q : 0 ≤ i ∧ i < A 4 0
    · obtain ⟨i, rfl⟩ : ∃ k : Nat, i = k := ⟨i.toNat, by omega⟩
      rw [if_neg (by rw [b01]; omega), zq_153_25]
      by_cases g : w < 0 ∨ 5 < w
      · rw [sw_out (iI_i h3 h4) g]
        show z_R153 999 999998 106 0 _ _ _ = _
        rw [zq_153_106, zx_111 998, cli_i, z_w1_w1, q_lent, if_neg (by omega)]
        rfl
      · have g2 : w = 0 ∨ w = 1 ∨ w = 2 ∨ w = 3 ∨ w = 4 ∨ w = 5 := by omega
        rcases g2 with rfl | rfl | rfl | rfl | rfl | rfl
        · rw [sw_in (iI_i h3 h4) g rfl]
          show z_R153 999 999998 64 0 _ _ _ = _
          rw [zq_153_64, ixN (by omega) (by decide), cond_true, tN (by omega), m_26 h0 (by omega), q_lent, if_pos (by omega)]
          rfl
        · rw [sw_in (iI_i h3 h4) g rfl]
          show z_R153 999 999998 71 0 _ _ _ = _
          rw [zq_153_71, ixN (by omega) (by decide), cond_true, tN (by omega), m_27 h0 (by omega), q_lent, if_pos (by omega)]
          rfl
        · rw [sw_in (iI_i h3 h4) g rfl]
          show z_R153 999 999998 78 0 _ _ _ = _
          rw [zq_153_78, ixN (by omega) (by decide), cond_true, tN (by omega), m_28 h0 (by omega), q_lent, if_pos (by omega)]
          rfl
        · rw [sw_in (iI_i h3 h4) g rfl]
          show z_R153 999 999998 85 0 _ _ _ = _
          rw [zq_153_85, ixN (by omega) (by decide), cond_true, tN (by omega), m_29 h0 (by omega), q_lent, if_pos (by omega)]
          rfl
        · rw [sw_in (iI_i h3 h4) g rfl]
          show z_R153 999 999998 92 0 _ _ _ = _
          rw [zq_153_92, ixN (by omega) (by decide), cond_true, tN (by omega), m_30 h0 (by omega), q_lent, if_pos (by omega)]
          rfl
        · rw [sw_in (iI_i h3 h4) g rfl]
          show z_R153 999 999998 99 0 _ _ _ = _
          rw [zq_153_99, ixN (by omega) (by decide), cond_true, tN (by omega), m_31 h0 (by omega), q_lent, if_pos (by omega)]
          rfl
    · rw [if_pos (by rw [b01]; omega), zx_111 998, cli_i, z_w1_w1, q_lent, if_neg (by omega)]
      rfl
/-! reader -/
theorem CI.pl (h : CI p A S) : z_ln (p + 1) = 10 ∧ z_ln (p + 2) = 10 ∧ z_ln (p + 3) = 8 ∧ z_ln (p + 4) = 8 ∧ z_ln (p + 5) = 8 ∧ z_ln (p + 6) = 8 ∧ z_ln (p + 7) = 8 ∧ z_ln (p + 8) = 8 ∧ z_ln (p + 9) = 700 := by
  rcases h.1 with rfl | rfl <;> decide +kernel
theorem CI.px (h : CI p A S) {k i n : Nat} (hk : k < 10) (hk0 : 0 < k) (hl : z_ln (p + k) = n) (hi : i < n) (hn : n ≤ 2147483648) : (Nat.beq (z_at (p + k)) 1 && z_ix (iI i) (z_ln (p + k))) = true := by
  rw [h.p4 k hk hk0, hl, ixN hi hn]
  rfl
def q_reader (A : aS) (r w : Int) : Option Int := if 0 ≤ r ∧ r < A 3 0 ∧ 0 ≤ w ∧ w ≤ 4 then some (if w = 0 then A 13 r.toNat else if w = 1 then A 14 r.toNat else if w = 2 then A 15 r.toNat else if w = 3 then A 16 r.toNat else A 21 r.toNat) else none
theorem o_reader (a b : Int32) : OpW 194 146 [.int a, .int b] := by
  intro S ⟨p, A, hC, hM, hw⟩
  obtain ⟨r, h1, h2, rfl⟩ := iI_of a
  obtain ⟨w, h3, h4, rfl⟩ := iI_of b
  have hr := hw.r
  obtain ⟨-, -, l3, l4, l5, l6, -⟩ := hC.pl
  refine opW_mk (cm := 79) (o := q_reader A r w) (fun _ _ e => w_194 e) (fun _ e => w_194x e) hw hM (S1 := S) ?_ (fC.rf S) hC hw (fun S2 h => mQ_same hw h ?_)
  · rw [zx_79 998]
    by_cases q1 : 0 ≤ r ∧ r < A 3 0
    · obtain ⟨r, rfl, k1⟩ := okR.n q1
      rw [rqR1 hC hw k1 997, clv_v]
      by_cases g : w < 0 ∨ 4 < w
      · rw [sw_out (iI_i h3 h4) g]
        show z_R79 998 999999 90 0 _ _ _ = _
        rw [zq_79_90, q_reader, if_neg (by omega)]
        rfl
      · have g2 : w = 0 ∨ w = 1 ∨ w = 2 ∨ w = 3 ∨ w = 4 := by omega
        rcases g2 with rfl | rfl | rfl | rfl | rfl
        · rw [sw_in (iI_i h3 h4) g rfl]
          show z_R79 998 999999 40 0 _ _ _ = _
          rw [zq_79_40, hC.p1, hC.p2, hC.p3, hC.px (by decide) (by decide) l3 (by omega) (by decide), tN (by omega), c_13 hC k1, q_reader, if_pos (by omega)]
          rfl
        · rw [sw_in (iI_i h3 h4) g rfl]
          show z_R79 998 999999 50 0 _ _ _ = _
          rw [zq_79_50, hC.p1, hC.p2, hC.p3, hC.px (by decide) (by decide) l4 (by omega) (by decide), tN (by omega), c_14 hC k1, q_reader, if_pos (by omega)]
          rfl
        · rw [sw_in (iI_i h3 h4) g rfl]
          show z_R79 998 999999 60 0 _ _ _ = _
          rw [zq_79_60, hC.p1, hC.p2, hC.p3, hC.px (by decide) (by decide) l5 (by omega) (by decide), tN (by omega), c_15 hC k1, q_reader, if_pos (by omega)]
          rfl
        · rw [sw_in (iI_i h3 h4) g rfl]
          show z_R79 998 999999 70 0 _ _ _ = _
          rw [zq_79_70, hC.p1, hC.p2, hC.p3, hC.px (by decide) (by decide) l6 (by omega) (by decide), tN (by omega), c_16 hC k1, q_reader, if_pos (by omega)]
          rfl
        · rw [sw_in (iI_i h3 h4) g rfl]
          show z_R79 998 999999 80 0 _ _ _ = _
          rw [zq_79_80, ixN (by omega) (by decide), cond_true, tN (by omega), c_21 hC (by omega), q_reader, if_pos (by omega)]
          rfl
    · rw [rqR0 hC hw h1 h2 q1 997, clv_x, hnd_0, q_reader, if_neg (by omega)]
      rfl
  · have h0 : MI A (z_w1 S2.1 70 1 (nI 0), S2.2) := h.code hw
    rw [zx_146 999]
    by_cases q1 : 0 ≤ r ∧ r < A 3 0
    · obtain ⟨r, rfl, k1⟩ := okR.n q1
      rw [isR1 h0 hw k1 997, cli_i, if_neg n10, zq_146_19]
      by_cases g : w < 0 ∨ 4 < w
      · rw [sw_out (iI_i h3 h4) g]
        show z_R146 999 999998 99 0 _ _ _ = _
        rw [zq_146_99, zx_111 998, cli_i, z_w1_w1, q_reader, if_neg (by omega)]
        rfl
      · have g2 : w = 0 ∨ w = 1 ∨ w = 2 ∨ w = 3 ∨ w = 4 := by omega
        rcases g2 with rfl | rfl | rfl | rfl | rfl
        · rw [sw_in (iI_i h3 h4) g rfl]
          show z_R146 999 999998 56 0 _ _ _ = _
          rw [zq_146_56, ixN (by omega) (by decide), cond_true, tN (by omega), m_13 h0 k1, q_reader, if_pos (by omega)]
          rfl
        · rw [sw_in (iI_i h3 h4) g rfl]
          show z_R146 999 999998 63 0 _ _ _ = _
          rw [zq_146_63, ixN (by omega) (by decide), cond_true, tN (by omega), m_14 h0 k1, q_reader, if_pos (by omega)]
          rfl
        · rw [sw_in (iI_i h3 h4) g rfl]
          show z_R146 999 999998 70 0 _ _ _ = _
          rw [zq_146_70, ixN (by omega) (by decide), cond_true, tN (by omega), m_15 h0 k1, q_reader, if_pos (by omega)]
          rfl
        · rw [sw_in (iI_i h3 h4) g rfl]
          show z_R146 999 999998 77 0 _ _ _ = _
          have eq3 : q_reader A r 3 = some (A 16 r) := by rw [q_reader, if_pos (by omega)]; rfl
          rw [zq_146_77, ixN (by omega) (by decide), cond_true, tN (by omega), m_16 h0 k1, eq3]
          have e16 : A 16 r = 0 ∨ A 16 r = 1 := (hw.P.2.2.2.2.2.2.1 r k1).2.2.2.1
          rcases e16 with e | e
          · rw [e, if_pos z00, zq_146_90, zq_146_91]
            rfl
          · rw [e, if_neg n10, zq_146_91]
            rfl
        · rw [sw_in (iI_i h3 h4) g rfl]
          show z_R146 999 999998 92 0 _ _ _ = _
          rw [zq_146_92, ixN (by omega) (by decide), cond_true, tN (by omega), m_21 h0 (by omega), q_reader, if_pos (by omega)]
          rfl
    · rw [isR0 h0 hw h1 h2 q1 997, cli_i, if_pos z00, zx_111 998, cli_i, z_w1_w1, q_reader, if_neg (by omega)]
      rfl
end TUR
