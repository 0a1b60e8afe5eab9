/-! has, read -/
theorem lg_eq0 (x y : Int64) : lg_cmp x y = 0 ↔ x = y := by
  unfold lg_cmp
  by_cases h : x > y
  · rw [if_pos h]
    constructor
    · intro q; exact absurd q (by decide)
    · intro q; subst q; rw [GT.gt, fa_lt64] at h; omega
  · rw [if_neg h]
    by_cases h2 : x = y
    · rw [if_pos h2]; simp [h2]
    · rw [if_neg h2]
      constructor
      · intro q; exact absurd q (by decide)
      · intro q; exact absurd q h2
theorem bit_v (w : Int64) {k : Nat} (hk : k < 64) : ((w.toUInt64 >>> ((iI (k : Int)).toInt64.toUInt64 &&& Int64.toUInt64 63)).toInt64 &&& lN 1) = if w.toBitVec.getLsbD k = true then lN 1 else lN 0 := by
  obtain ⟨n, hn, rfl⟩ := wb_of w
  rw [← iI_n]
  have e1 := wb_bit hn hk
  have e2 : (lN n).toBitVec.getLsbD k = n.testBit k := by
    rw [wb_tb, BitVec.getLsbD_ofNat]
    simp [hk]
  rw [e2, Nat.testBit_eq_decide_div_mod_eq]
  show _ &&& (1 : Int64) = _
  rw [e1]
  have h2 : n / 2 ^ k % 2 = 0 ∨ n / 2 ^ k % 2 = 1 := by omega
  rcases h2 with h2 | h2 <;> rw [h2] <;> simp
def rd (A : aS) (b r q : Nat) : Bool := decide (A 65 (401 * (8 * b + r) + q + 1) = 1)
def wlk (f : Nat → Bool) : Nat → Nat → Nat
  | 0, i => i
  | j + 1, i => if f i = true then wlk f j (i + 1) else i
section REA
variable {p : Nat} {A : aS} {S : z_St}
theorem wf.pg {A : aS} (h : wf A) {b : Nat} (hb : (b : Int) < A 2 0) : 1 ≤ A 11 b ∧ A 11 b ≤ 400 := (h.P.2.2.2.2.2.1 b hb).1
theorem wf.pt {A : aS} (h : wf A) {b : Nat} (hb : (b : Int) < A 2 0) : 0 ≤ A 12 b ∧ A 12 b ≤ 400 := (h.P.2.2.2.2.2.1 b hb).2
theorem wf.rd {A : aS} (h : wf A) {b r q : Nat} (hb : (b : Int) < A 2 0) (hr : (r : Int) < A 3 0) (hq : q < 401) : A 65 (401 * (8 * b + r) + q) = 0 ∨ A 65 (401 * (8 * b + r) + q) = 1 ∧ 1 ≤ q ∧ (q : Int) ≤ A 11 b := (h.L.2.2.2.2.2.2.2.2.1 b r hb hr).2 q hq
theorem wf.cl {A : aS} (h : wf A) {j : Nat} (hj : j < 80) : (-1 ≤ A 22 j ∧ A 22 j ≤ 401) ∧ (0 ≤ A 23 j ∧ A 23 j ≤ 401) ∧ (A 23 j = 0 ↔ A 22 j = 0) ∧ A 24 j = (rct A j : Int) ∧ (-1 ≤ A 25 j ∧ A 25 j ≤ 8784) := h.L.2.2.2.2.2.2.1 j hj
theorem rd_no (h : wf A) {b r q : Nat} (hb : (b : Int) < A 2 0) (hr : (r : Int) < A 3 0) (hq : A 11 b ≤ q) (hq4 : q < 400) : rd A b r q = false := by
  rcases h.rd hb hr (q := q + 1) (by omega) with e | ⟨-, -, e⟩
  · have e : A 65 (401 * (8 * b + r) + q + 1) = 0 := e
    unfold rd; rw [e]; rfl
  · omega
theorem rct_p (h : wf A) {b r P : Nat} (hb : (b : Int) < A 2 0) (hr : (r : Int) < A 3 0) (hP : A 11 b = P) : fb_ct (rd A b r) P = rct A (8 * b + r) := by
  have hg := h.pg hb
  have e : ∀ k, P + k ≤ 400 → fb_ct (rd A b r) (P + k) = fb_ct (rd A b r) P := by
    intro k
    induction k with
    | zero => intro _; rfl
    | succ k ih =>
      intro hk
      show fb_ct (rd A b r) (P + k + 1) = _
      rw [fb_ct_succ, rd_no h hb hr (by omega) (by omega), ih (by omega)]
      rfl
  have e2 := e (400 - P) (by omega)
  rw [show P + (400 - P) = 400 by omega] at e2
  rw [← e2]
  rfl
theorem c_isR (h : CI p A S) {b r q : Nat} (hb : b < 10) (hr : r < 8) (hq : q < 400) (d : Nat) : z_ew (d + 1) 7 [.ref 24, .int (iI ((r * 10 + b : Nat) : Int)), .int (iI ((q + 1 : Nat) : Int))] S = some (.inl (some (.int (iI (if rd A b r q = true then 1 else 0)))), S) := by
  have hB := h.2.2.2.2.1 b r hb hr q (by omega)
  have e1 : iI ((q + 1 : Nat) : Int) - nI 1 = iI (q : Int) := by
    rw [iI_n, iI_sub]
    congr 1
    omega
  have e2 : iI (q : Int) / nI 64 = iI ((q / 64 : Nat) : Int) := by
    rw [iI_n, iI_div (by omega) (by omega) (by decide) (by decide)]
    congr 1
  have e3 : iI (q : Int) - iI ((q / 64 : Nat) : Int) * nI 64 = iI ((q % 64 : Nat) : Int) := by
    rw [iI_n, iI_mul, iI_sub]
    congr 1
    omega
  have e4 : iI ((r * 10 + b : Nat) : Int) * nI 7 + iI ((q / 64 : Nat) : Int) = iI (((r * 10 + b) * 7 + q / 64 : Nat) : Int) := by
    rw [iI_n, iI_mul, iI_add]
    congr 1
  rw [zx_7, e1, e2, e3, e4, ixN (by omega) (by decide), cond_true, tN (by omega), bit_v _ (by omega), hB]
  have e5 : (decide (q < 400) && decide (A 65 (401 * (8 * b + r) + q + 1) = 1)) = rd A b r q := by simp [hq, rd]
  rw [e5]
  by_cases g : rd A b r q = true
  · rw [if_pos g, if_pos (by rw [lg_eq0]), zq_7_35, if_pos g]
    rfl
  · rw [if_neg g, if_neg (by rw [lg_eq0]; decide +kernel), zq_7_34, zq_7_35, if_neg g]
    rfl
theorem m_hasR (h : MI A S) (hw : wf A) {b r q : Nat} (hb : (b : Int) < A 2 0) (hr : (r : Int) < A 3 0) (hq : q < 400) (d : Nat) : z_ew (d + 2) 142 [.ref 70, .int (iI r), .int (iI b), .int (iI ((q + 1 : Nat) : Int))] S = some (.inl (some (.int (iI (if rd A b r q = true then 1 else 0)))), S) := by
  have h1 := hw.b
  have h2 := hw.r
  have e4 : nI 401 * iI ((8 * b + r : Nat) : Int) + iI ((q + 1 : Nat) : Int) = iI ((401 * (8 * b + r) + q + 1 : Nat) : Int) := by
    rw [iI_n, iI_mul, iI_add]
    congr 1
  rw [zx_142, pai, cli_i, e4, ixN (by omega) (by decide), cond_true, tN (by omega), m_65 h (by omega)]
  have e5 : A 65 (401 * (8 * b + r) + q + 1) = if rd A b r q = true then 1 else 0 := by
    rcases hw.rd hb hr (q := q + 1) (by omega) with e | ⟨e, -, -⟩
    · have e : A 65 (401 * (8 * b + r) + q + 1) = 0 := e
      simp [rd, e]
    · have e : A 65 (401 * (8 * b + r) + q + 1) = 1 := e
      simp [rd, e]
  rw [e5, rb_b, cond_true]
def q_has (A : aS) (r b g : Int) : Option Int := if (0 ≤ r ∧ r < A 3 0 ∧ 0 ≤ b ∧ b < A 2 0) ∧ 1 ≤ g ∧ g ≤ A 11 b.toNat then some (if rd A b.toNat r.toNat (g - 1).toNat = true then 1 else 0) else none
theorem q_has1 {r b q : Nat} (hr : (r : Int) < A 3 0) (hb : (b : Int) < A 2 0) (hq : ((q + 1 : Nat) : Int) ≤ A 11 b) : q_has A r b ((q + 1 : Nat) : Int) = some (if rd A b r q = true then 1 else 0) := by
  have e1 : ((b : Int)).toNat = b := Int.toNat_natCast b
  have e2 : ((r : Int)).toNat = r := Int.toNat_natCast r
  have e3 : (((q + 1 : Nat) : Int) - 1).toNat = q := by omega
  unfold q_has
  rw [e1, e2, e3]
  exact if_pos (by omega)
theorem o_has (a b c : Int32) : OpB 200 158 [.int a, .int b, .int c] := by
  intro S ⟨p, A, hC, hM, hw⟩
  obtain ⟨r, h1, h2, rfl⟩ := iI_of a
  obtain ⟨b, h3, h4, rfl⟩ := iI_of b
  obtain ⟨g, h5, h6, rfl⟩ := iI_of c
  have hb := hw.b
  have hr := hw.r
  obtain ⟨l1, -⟩ := hC.pl
  refine opB_mk (cm := 85) (o := q_has A r b g) (fun _ _ e => w_200 e) (fun _ e => w_200x e) hw hM (S1 := S) ?_ (fC.rf S) hC hw (fun S2 h => mQ_same hw h ?_)
  · rw [zx_85 998]
    by_cases q1 : 0 ≤ r ∧ r < A 3 0
    · obtain ⟨r, rfl, k1⟩ := okR.n q1
      rw [rqR1 hC hw k1 997, clv_v]
      by_cases q2 : 0 ≤ b ∧ b < A 2 0
      · obtain ⟨b, rfl, k2⟩ := okB.n q2
        have hg := hw.pg k2
        rw [rqB1 hC hw k2 997, clv_v, iI_n 1]
        by_cases g1 : g < 1
        · rw [if_pos (by rw [iI_lt h5 h6 (by decide) (by decide)]; omega), zq_85_28, q_has, if_neg (by omega)]
          rfl
        · rw [if_neg (by rw [iI_lt h5 h6 (by decide) (by decide)]; omega), hC.p1, hC.p2, hC.p3, hC.px (by decide) (by decide) l1 (by omega) (by decide), tN (by omega), c_11 hC k2]
          have eB : ((b : Int)).toNat = b := Int.toNat_natCast b
          by_cases g2 : g ≤ A 11 b
          · obtain ⟨q, rfl⟩ : ∃ q : Nat, g = ((q + 1 : Nat) : Int) := ⟨(g - 1).toNat, by omega⟩
            rw [cond_false, cond_true, cond_true, if_pos (by rw [iI_le h5 h6 (by omega) (by omega)]; exact g2), zq_85_38, cel, cli_i, c_isR hC (by omega) (by omega) (by omega), cli_i, rb_b, cond_true, q_has1 k1 k2 (by omega)]
            rfl
          · rw [cond_false, cond_true, cond_true, if_neg (by rw [iI_le h5 h6 (by omega) (by omega)]; exact g2), zq_85_28, q_has, if_neg (by rw [eB]; omega)]
            rfl
      · rw [rqB0 hC hw h3 h4 q2 997, clv_x, hnd_0, q_has, if_neg (by omega)]
        rfl
    · rw [rqR0 hC hw h1 h2 q1 997, clv_x, hnd_0, q_has, if_neg (by omega)]
      rfl
  · have h0 : MI A (z_w1 S2.1 70 1 (nI 0), S2.2) := h.code hw
    rw [zx_158 999]
    by_cases q1 : 0 ≤ r ∧ r < A 3 0
    · obtain ⟨r, rfl, k1⟩ := okR.n q1
      rw [isR1 h0 hw k1 997, cli_i, if_neg n10]
      by_cases q2 : 0 ≤ b ∧ b < A 2 0
      · obtain ⟨b, rfl, k2⟩ := okB.n q2
        have hg := hw.pg k2
        have eB : ((b : Int)).toNat = b := Int.toNat_natCast b
        rw [isB1 h0 hw k2 997, cli_i, if_neg n10, ixN (by omega) (by decide), cond_true, tN (by omega), m_11 h0 k2, iI_n 1, zy_112 998 g _ _ _ h5 h6 (by decide) (by decide) (by omega) (by omega), cli_i]
        by_cases g2 : 1 ≤ g ∧ g ≤ A 11 b
        · obtain ⟨q, rfl⟩ : ∃ q : Nat, g = ((q + 1 : Nat) : Int) := ⟨(g - 1).toNat, by omega⟩
          rw [if_neg (by rw [b01]; omega), zq_158_42, m_hasR h0 hw k2 k1 (by omega), cli_i, rb_b, cond_true, q_has1 k1 k2 (by omega)]
          rfl
        · rw [if_pos (by rw [b01]; omega), zq_158_35, q_has, if_neg (by rw [eB]; omega), z_w1_w1]
          rfl
      · rw [isB0 h0 hw h3 h4 q2 997, cli_i, if_pos z00, zq_158_35, q_has, if_neg (by omega), z_w1_w1]
        rfl
    · rw [isR0 h0 hw h1 h2 q1 997, cli_i, if_pos z00, zq_158_35, q_has, if_neg (by omega), z_w1_w1]
      rfl
end REA
