/-! book -/
def orr (f : Nat → Bool) : Nat → Bool
  | 0 => false
  | k + 1 => orr f k || f k
theorem orr_ext {f : Nat → Bool} {R : Nat} : ∀ k, (∀ r, R ≤ r → r < R + k → f r = false) → orr f (R + k) = orr f R
  | 0, _ => rfl
  | k + 1, h => by
    show (orr f (R + k) || f (R + k)) = _
    rw [h (R + k) (by omega) (by omega), Bool.or_false]
    exact orr_ext k (fun r h1 h2 => h r h1 (by omega))
theorem or01 (a b : Bool) : iI (if a = true then 1 else 0) ||| iI (if b = true then 1 else 0) = iI (if (a || b) = true then 1 else 0) := by
  cases a <;> cases b <;> decide
def opn (A : aS) (b q : Nat) : Bool := orr (fun r => rd A b r q) 8
def slp (A : aS) (b : Nat) : Nat → Bool := fun r => decide (0 < A 22 (8 * b + r))
section BOO
variable {p : Nat} {A : aS} {S : z_St}
theorem rd_out (hw : wf A) {b r q : Nat} (hb : b < 10) (hr : r < 8) (hR : A 3 0 ≤ r) (hq : q < 400) : rd A b r q = false := by
  have h := (hw.L.2.2.2.2.2.2.2.1 b r hb hr (Or.inr hR)).2 (q + 1) (by omega)
  have h : A 65 (401 * (8 * b + r) + q + 1) = 0 := h
  unfold rd
  rw [h]
  rfl
theorem opn_R (hw : wf A) {b q : Nat} (hb : b < 10) (hq : q < 400) : orr (fun r => rd A b r q) (A 3 0).toNat = opn A b q := by
  have hr := hw.r
  unfold opn
  rw [show 8 = (A 3 0).toNat + (8 - (A 3 0).toNat) by omega]
  exact (orr_ext _ (fun r h1 h2 => rd_out hw hb (by omega) (by omega) hq)).symm
theorem opn_no (hw : wf A) {b q : Nat} (hb : (b : Int) < A 2 0) (hq : A 11 b ≤ q) (hq4 : q < 400) : opn A b q = false := by
  have h2 := hw.b
  have hr := hw.r
  rw [← opn_R hw (by omega) hq4]
  have : ∀ k : Nat, (k : Int) ≤ A 3 0 → orr (fun r => rd A b r q) k = false := by
    intro k
    induction k with
    | zero => intro _; rfl
    | succ k ih =>
      intro hk
      show (orr (fun r => rd A b r q) k || rd A b k q) = false
      rw [ih (by omega), rd_no hw hb (by omega) hq hq4]
      rfl
  exact this _ (by omega)
theorem c_w1 (h : CI p A S) {b l : Nat} (hb : b < 10) (hl : l < 7) (d z : Nat) : ∀ (k i n : Nat) (w : Int64) (L x5 : _), i + k = 8 → k + 2 ≤ n → (∀ q, q < 64 → w.toBitVec.getLsbD q = (decide (64 * l + q < 400) && orr (fun r => rd A b r (64 * l + q)) i)) → ∃ (w1 : Int64) (x : Nat), (∀ q, q < 64 → w1.toBitVec.getLsbD q = (decide (64 * l + q < 400) && opn A b (64 * l + q))) ∧ z_R9 (d + 1) n 16 z [some (.ref 24), some (.int (iI b)), some (.int (iI L)), some (.int (iI l)), some (.long w), x5, some (.int (iI i))] [] S = z_R9 (d + 1) (n - k - 1) 50 z [some (.ref 24), some (.int (iI b)), some (.int (iI L)), some (.int (iI l)), some (.long w1), none, some (.int (iI x))] [] S := by
  intro k
  induction k with
  | zero =>
    intro i n w L x5 hi hn hq
    obtain ⟨n, rfl⟩ : ∃ m, n = m + 2 := ⟨n - 2, by omega⟩
    have e : i = 8 := by omega
    subst e
    refine ⟨w, 8, hq, ?_⟩
    rw [zq_9_16, iI_n 8, if_pos (by rw [iI_le (by decide) (by decide) (by omega) (by omega)]; omega)]
    rfl
  | succ k ih =>
    intro i n w L x5 hi hn hq
    obtain ⟨n, rfl⟩ : ∃ m, n = m + 2 := ⟨n - 2, by omega⟩
    have e1 : iI ((i * 10 + b : Nat) : Int) * nI 7 + iI (l : Int) = iI (((i * 10 + b) * 7 + l : Nat) : Int) := by
      rw [iI_n, iI_mul, iI_add]
      congr 1
    have e2 : iI (i : Int) + nI 1 = iI ((i + 1 : Nat) : Int) := by
      rw [iI_n, iI_add]
      congr 1
    rw [zq_9_16, iI_n 8, if_neg (by rw [iI_le (by decide) (by decide) (by omega) (by omega)]; omega), cel, cli_i, e1, ixN (by omega) (by decide), cond_true, tN (by omega), e2]
    obtain ⟨w1, x, g1, g2⟩ := ih (i + 1) (n + 1) (w ||| S.2 32 ((i * 10 + b) * 7 + l)) L none (by omega) (by omega) (fun q hq2 => by
      have hB := h.2.2.2.2.1 b i hb (by omega) (64 * l + q) (by omega)
      rw [show (64 * l + q) / 64 = l by omega, show (64 * l + q) % 64 = q by omega] at hB
      rw [Int64.toBitVec_or, BitVec.getLsbD_or, hq q hq2, hB]
      show _ = (decide (64 * l + q < 400) && (orr (fun r => rd A b r (64 * l + q)) i || rd A b i (64 * l + q)))
      rw [Bool.and_or_distrib_left]
      rfl)
    refine ⟨w1, x, g1, ?_⟩
    rw [g2, show n + 1 - k - 1 = n + 2 - (k + 1) - 1 by omega]
def opc (A : aS) (b : Nat) : Nat → Bool := fun q => decide (q < 400) && opn A b q
theorem c_op (h : CI p A S) {b : Nat} (hb : b < 10) (d z : Nat) : ∀ (k i n : Nat) (x4 x5 x6 : _), i + k = 7 → 11 * k + 2 ≤ n → z_R9 (d + 1) n 4 z [some (.ref 24), some (.int (iI b)), some (.int (iI (fb_ct (opc A b) (64 * i) : Int))), some (.int (iI i)), x4, x5, x6] [] S = some (.inl (some (.int (iI (fb_ct (opc A b) 448 : Int)))), S) := by
  intro k
  induction k with
  | zero =>
    intro i n x4 x5 x6 hi hn
    obtain ⟨n, rfl⟩ : ∃ m, n = m + 2 := ⟨n - 2, by omega⟩
    have e : i = 7 := by omega
    subst e
    rw [zq_9_4, iI_n 7, if_pos (by rw [iI_le (by decide) (by decide) (by omega) (by omega)]; omega), zq_9_64]
  | succ k ih =>
    intro i n x4 x5 x6 hi hn
    obtain ⟨n, rfl⟩ : ∃ m, n = m + 11 := ⟨n - 11, by omega⟩
    obtain ⟨w1, x, g1, g2⟩ := c_w1 h hb (l := i) (by omega) d z 8 0 (n + 10) (lN 0) (fb_ct (opc A b) (64 * i) : Int) none (by omega) (by omega) (fun q hq => by
      show (lN 0).toBitVec.getLsbD q = (_ && false)
      rw [Bool.and_false]
      show (0#64).getLsbD q = false
      simp)
    rw [zq_9_4, iI_n 7, if_neg (by rw [iI_le (by decide) (by decide) (by omega) (by omega)]; omega), iI_n 0, g2, show n + 10 - 8 - 1 = n + 1 by omega, zq_9_50, zy_186, cli_i, iI_n 1, iI_add, iI_add]
    have e1 : (fb_ct (opc A b) (64 * i) : Int) + (fb_ct (fun k => w1.toBitVec.getLsbD k) 64 : Int) = (fb_ct (opc A b) (64 * (i + 1)) : Int) := by
      have : fb_ct (opc A b) (64 * (i + 1)) = fb_ct (opc A b) (64 * i) + fb_ct (fun k => w1.toBitVec.getLsbD k) 64 := by
        have e5 : fb_ct (fun k => w1.toBitVec.getLsbD k) 64 = fb_ct (fun k => opc A b (64 * i + k)) 64 := fb_ct_cong (fun q hq => g1 q hq)
        rw [show 64 * (i + 1) = 64 * i + 64 by omega, fb_ct_split, e5]
      omega
    rw [e1, show (i : Int) + ((1 : Nat) : Int) = ((i + 1 : Nat) : Int) by omega]
    exact ih (i + 1) n _ _ _ (by omega) (by omega)
theorem opc_p (hw : wf A) {b P : Nat} (hb : (b : Int) < A 2 0) (hP : A 11 b = P) : fb_ct (opc A b) 448 = fb_ct (opn A b) P := by
  have hg := hw.pg hb
  have e : ∀ k, P + k ≤ 448 → fb_ct (opc A b) (P + k) = fb_ct (opc A b) P := by
    intro k
    induction k with
    | zero => intro _; rfl
    | succ k ih =>
      intro hk
      have e0 : opc A b (P + k) = false := by
        unfold opc
        by_cases g : P + k < 400
        · rw [opn_no hw hb (by omega) g, Bool.and_false]
        · simp [g]
      show fb_ct (opc A b) (P + k + 1) = _
      rw [fb_ct_succ, e0, ih (by omega)]
      rfl
  have e2 := e (448 - P) (by omega)
  rw [show P + (448 - P) = 448 by omega] at e2
  rw [e2]
  apply fb_ct_cong
  intro q hq
  unfold opc
  rw [decide_eq_true (show q < 400 by omega), Bool.true_and]
theorem c_si (h : CI p A S) (hw : wf A) {b : Nat} (hb : b < 10) (d z : Nat) : ∀ (k i n : Nat), i + k = 8 → 2 * k + 2 ≤ n → z_R13 (d + 1) n 4 z [some (.ref 24), some (.int (iI b)), some (.int (iI (fb_ct (slp A b) i : Int))), some (.int (iI i))] [] S = some (.inl (some (.int (iI (fb_ct (slp A b) 8 : Int)))), S) := by
  intro k
  induction k with
  | zero =>
    intro i n hi hn
    obtain ⟨n, rfl⟩ : ∃ m, n = m + 2 := ⟨n - 2, by omega⟩
    have e : i = 8 := by omega
    subst e
    rw [zq_13_4, iI_n 8, if_pos (by rw [iI_le (by decide) (by decide) (by omega) (by omega)]; omega), zq_13_32]
  | succ k ih =>
    intro i n hi hn
    obtain ⟨n, rfl⟩ : ∃ m, n = m + 2 := ⟨n - 2, by omega⟩
    have hs := hw.s (j := 8 * b + i) (by omega)
    have e2 : (i : Int) + ((1 : Nat) : Int) = ((i + 1 : Nat) : Int) := by omega
    have ec := fb_ct_succ (slp A b) i
    have es : slp A b i = decide (0 < A 22 (8 * b + i)) := rfl
    rw [zq_13_4, iI_n 8, if_neg (by rw [iI_le (by decide) (by decide) (by omega) (by omega)]; omega), cel, cli_i, ixN (by omega) (by decide), cond_true, tN (by omega), c_22 h hb (by omega), iI_0]
    by_cases q : A 22 (8 * b + i) ≤ 0
    · rw [if_pos (by rw [iI_le (by omega) (by omega) (by decide) (by decide)]; exact q), zq_13_26, iI_n 1, iI_add, e2]
      have e3 : fb_ct (slp A b) (i + 1) = fb_ct (slp A b) i := by
        rw [ec, es, decide_eq_false (by omega)]
        rfl
      rw [← e3]
      exact ih (i + 1) n (by omega) (by omega)
    · rw [if_neg (by rw [iI_le (by omega) (by omega) (by decide) (by decide)]; exact q), zq_13_26, iI_n 1, iI_add, iI_add, e2]
      have e3 : (fb_ct (slp A b) i : Int) + ((1 : Nat) : Int) = (fb_ct (slp A b) (i + 1) : Int) := by
        rw [ec, es, decide_eq_true (by omega)]
        rfl
      rw [e3]
      exact ih (i + 1) n (by omega) (by omega)
theorem m_si (h : MI A S) (hw : wf A) {b R : Nat} (hb : b < 10) (hR : A 3 0 = R) (d z : Nat) : ∀ (k i n : Nat), i + k = R → 3 * k + 2 ≤ n → ∀ x2, x2 = fb_ct (slp A b) i → z_R144 (d + 1) n 4 z [some (.ref 70), some (.int (iI b)), some (.int (iI (x2 : Int))), some (.int (iI i))] [] S = some (.inl (some (.int (iI (fb_ct (slp A b) R : Int)))), S) := by
  have hr := hw.r
  intro k
  induction k with
  | zero =>
    intro i n hi hn x2 hx
    obtain ⟨n, rfl⟩ : ∃ m, n = m + 2 := ⟨n - 2, by omega⟩
    have e : i = R := by omega
    subst e
    rw [zq_144_4, m_3 h, hR, if_pos (by rw [iI_le (by omega) (by omega) (by omega) (by omega)]; omega), zq_144_39, hx]
  | succ k ih =>
    intro i n hi hn x2 hx
    obtain ⟨n, rfl⟩ : ∃ m, n = m + 3 := ⟨n - 3, by omega⟩
    have hs := hw.s (j := 8 * b + i) (by omega)
    have e2 : (i : Int) + ((1 : Nat) : Int) = ((i + 1 : Nat) : Int) := by omega
    have ec := fb_ct_succ (slp A b) i
    have es : slp A b i = decide (0 < A 22 (8 * b + i)) := rfl
    rw [zq_144_4, m_3 h, hR, if_neg (by rw [iI_le (by omega) (by omega) (by omega) (by omega)]; omega), pai, cli_i, ixN (by omega) (by decide), cond_true, tN (by omega), m_22 h (by omega), iI_0]
    by_cases q : A 22 (8 * b + i) ≤ 0
    · rw [if_pos (by rw [iI_le (by omega) (by omega) (by decide) (by decide)]; exact q), zq_144_30, zq_144_31, iI_n 1, iI_n 0, iI_add, iI_add, e2]
      have e3 : fb_ct (slp A b) (i + 1) = fb_ct (slp A b) i := by
        rw [ec, es, decide_eq_false (by omega)]
        rfl
      rw [show (x2 : Int) + ((0 : Nat) : Int) = ((x2 : Nat) : Int) by omega]
      exact ih (i + 1) n (by omega) (by omega) x2 (by rw [hx, e3])
    · rw [if_neg (by rw [iI_le (by omega) (by omega) (by decide) (by decide)]; exact q), zq_144_31, iI_n 1, iI_add, iI_add, e2]
      have e3 : fb_ct (slp A b) (i + 1) = fb_ct (slp A b) i + 1 := by
        rw [ec, es, decide_eq_true (by omega)]
        rfl
      rw [show (x2 : Int) + ((1 : Nat) : Int) = ((x2 + 1 : Nat) : Int) by omega]
      exact ih (i + 1) (n + 1) (by omega) (by omega) (x2 + 1) (by rw [hx, e3])
theorem slp_R (hw : wf A) {b : Nat} (hb : b < 10) : fb_ct (slp A b) (A 3 0).toNat = fb_ct (slp A b) 8 := by
  have hr := hw.r
  have e : ∀ k, (A 3 0).toNat + k ≤ 8 → fb_ct (slp A b) ((A 3 0).toNat + k) = fb_ct (slp A b) (A 3 0).toNat := by
    intro k
    induction k with
    | zero => intro _; rfl
    | succ k ih =>
      intro hk
      have h0 := (hw.L.2.2.2.2.2.2.2.1 b ((A 3 0).toNat + k) hb (by omega) (Or.inr (by omega))).1
      have e0 : slp A b ((A 3 0).toNat + k) = false := by
        unfold slp
        rw [h0]
        rfl
      show fb_ct (slp A b) ((A 3 0).toNat + k + 1) = _
      rw [fb_ct_succ, e0, ih (by omega)]
      rfl
  have e2 := e (8 - (A 3 0).toNat) (by omega)
  rw [show (A 3 0).toNat + (8 - (A 3 0).toNat) = 8 by omega] at e2
  exact e2.symm
theorem m_o1 (h : MI A S) (hw : wf A) {b R q : Nat} (hb : (b : Int) < A 2 0) (hR : A 3 0 = R) (hq : q < 400) (d z : Nat) (L : Int) : ∀ (k i n : Nat), i + k = R → k + 1 ≤ n → z_R143 (d + 3) n 20 z [some (.ref 70), some (.int (iI b)), some (.int (iI L)), some (.int (iI ((q + 1 : Nat) : Int))), some (.int (iI (if orr (fun r => rd A b r q) i = true then 1 else 0))), some (.int (iI i))] [] S = z_R143 (d + 3) (n - k - 1) 48 z [some (.ref 70), some (.int (iI b)), some (.int (iI L)), some (.int (iI ((q + 1 : Nat) : Int))), some (.int (iI (if orr (fun r => rd A b r q) R = true then 1 else 0))), some (.int (iI R))] [] S := by
  have hr := hw.r
  intro k
  induction k with
  | zero =>
    intro i n hi hn
    obtain ⟨n, rfl⟩ : ∃ m, n = m + 1 := ⟨n - 1, by omega⟩
    have e : i = R := by omega
    subst e
    rw [zq_143_20, m_3 h, hR, if_pos (by rw [iI_le (by omega) (by omega) (by omega) (by omega)]; omega)]
    rfl
  | succ k ih =>
    intro i n hi hn
    obtain ⟨n, rfl⟩ : ∃ m, n = m + 1 := ⟨n - 1, by omega⟩
    have e2 : (i : Int) + ((1 : Nat) : Int) = ((i + 1 : Nat) : Int) := by omega
    rw [zq_143_20, m_3 h, hR, if_neg (by rw [iI_le (by omega) (by omega) (by omega) (by omega)]; omega), m_hasR h hw hb (by omega) hq, cli_i, or01, iI_n 1, iI_add, e2]
    have e3 := ih (i + 1) n (by omega) (by omega)
    rw [show n + 1 - (k + 1) - 1 = n - k - 1 by omega, ← e3]
    rfl
theorem m_op (h : MI A S) (hw : wf A) {b P : Nat} (hb : (b : Int) < A 2 0) (hP : A 11 b = P) (d z : Nat) : ∀ (k i n : Nat) (x4 x5 : _), i + k = P → 13 * k + 2 ≤ n → ∀ x2 : Nat, x2 = fb_ct (fun q => !(opn A b q)) i → z_R143 (d + 3) n 4 z [some (.ref 70), some (.int (iI b)), some (.int (iI (x2 : Int))), some (.int (iI ((i + 1 : Nat) : Int))), x4, x5] [] S = some (.inl (some (.int (iI (fb_ct (fun q => !(opn A b q)) P : Int)))), S) := by
  have h1 := hw.b
  have hr := hw.r
  have hg := hw.pg hb
  intro k
  induction k with
  | zero =>
    intro i n x4 x5 hi hn x2 hx
    obtain ⟨n, rfl⟩ : ∃ m, n = m + 2 := ⟨n - 2, by omega⟩
    have e : i = P := by omega
    subst e
    rw [zq_143_4, ixN (by omega) (by decide), cond_true, tN (by omega), m_11 h hb, hP, if_pos (by rw [iI_lt (by omega) (by omega) (by omega) (by omega)]; omega), zq_143_67, hx]
  | succ k ih =>
    intro i n x4 x5 hi hn x2 hx
    obtain ⟨n, rfl⟩ : ∃ m, n = m + 13 := ⟨n - 13, by omega⟩
    have e2 : ((i + 1 : Nat) : Int) + ((1 : Nat) : Int) = ((i + 1 + 1 : Nat) : Int) := by omega
    have e3 := m_o1 h hw (R := (A 3 0).toNat) (q := i) hb (by omega) (by omega) d z (x2 : Int) (A 3 0).toNat 0 (n + 12) (by omega) (by omega)
    rw [opn_R hw (by omega) (by omega)] at e3
    have e4 : z_R143 (d + 3) (n + 12) 20 z [some (.ref 70), some (.int (iI b)), some (.int (iI (x2 : Int))), some (.int (iI ((i + 1 : Nat) : Int))), some (.int (nI 0)), some (.int (nI 0))] [] S = _ := e3
    have ec := fb_ct_succ (fun q => !(opn A b q)) i
    obtain ⟨n', hn'⟩ : ∃ n', n + 12 - (A 3 0).toNat - 1 = n' + 3 := ⟨n + 12 - (A 3 0).toNat - 4, by omega⟩
    rw [zq_143_4, ixN (by omega) (by decide), cond_true, tN (by omega), m_11 h hb, hP, if_neg (by rw [iI_lt (by omega) (by omega) (by omega) (by omega)]; omega), e4, hn', zq_143_48]
    by_cases q : opn A b i = true
    · rw [if_neg (by rw [b01]; exact fun g => g q), zq_143_59, iI_n 1, iI_n 0, iI_add, iI_add, e2, show (x2 : Int) + ((0 : Nat) : Int) = ((x2 : Nat) : Int) by omega]
      refine ih (i + 1) (n' + 1) _ _ (by omega) (by omega) x2 ?_
      rw [hx, ec, q]
      rfl
    · rw [if_pos (by rw [b01]; exact q), zq_143_58, zq_143_59, iI_n 1, iI_add, iI_add, e2, show (x2 : Int) + ((1 : Nat) : Int) = ((x2 + 1 : Nat) : Int) by omega]
      refine ih (i + 1) n' _ _ (by omega) (by omega) (x2 + 1) ?_
      rw [hx, ec, ts_nt q]
      rfl
def q_book (A : aS) (b w : Int) : Option Int := if (0 ≤ b ∧ b < A 2 0) ∧ 0 ≤ w ∧ w ≤ 4 then some (if w = 0 then A 11 b.toNat else if w = 1 then A 12 b.toNat else if w = 2 then (fb_ct (fun q => !(opn A b.toNat q)) (A 11 b.toNat).toNat : Int) else if w = 3 then (fb_ct (slp A b.toNat) 8 : Int) else A 20 b.toNat) else none
theorem q_book1 {b : Nat} {w : Int} (hb : (b : Int) < A 2 0) (h0 : 0 ≤ w) (h3 : w ≤ 4) : q_book A b w = some (if w = 0 then A 11 b else if w = 1 then A 12 b else if w = 2 then (fb_ct (fun q => !(opn A b q)) (A 11 b).toNat : Int) else if w = 3 then (fb_ct (slp A b) 8 : Int) else A 20 b) := by
  have e1 : ((b : Int)).toNat = b := Int.toNat_natCast b
  unfold q_book
  rw [e1]
  exact if_pos (by omega)
theorem o_book (a c : Int32) : OpW 193 145 [.int a, .int c] := by
  intro S ⟨p, A, hC, hM, hw⟩
  obtain ⟨b, h3, h4, rfl⟩ := iI_of a
  obtain ⟨w, h5, h6, rfl⟩ := iI_of c
  have hb := hw.b
  have hr := hw.r
  obtain ⟨l1, l2, -⟩ := hC.pl
  refine opW_mk (cm := 78) (o := q_book A b w) (fun _ _ e => w_193 e) (fun _ e => w_193x e) hw hM (S1 := S) ?_ (fC.rf S) hC hw (fun S2 h => mQ_same hw h ?_)
  · rw [zx_78 998]
    by_cases q2 : 0 ≤ b ∧ b < A 2 0
    · obtain ⟨b, rfl, k2⟩ := okB.n q2
      have hg := hw.pg k2
      rw [rqB1 hC hw k2 997, clv_v]
      by_cases g : w < 0 ∨ 4 < w
      · rw [sw_out (iI_i h5 h6) g]
        show z_R78 998 999999 98 0 _ _ _ = _
        rw [zq_78_98, q_book, if_neg (by omega)]
        rfl
      · have eq := q_book1 (A := A) (w := w) k2 (by omega) (by omega)
        have g2 : w = 0 ∨ w = 1 ∨ w = 2 ∨ w = 3 ∨ w = 4 := by omega
        rcases g2 with rfl | rfl | rfl | rfl | rfl
        · rw [sw_in (iI_i h5 h6) g rfl]
          show z_R78 998 999999 40 0 _ _ _ = _
          rw [zq_78_40, hC.p1, hC.p2, hC.p3, hC.px (by decide) (by decide) l1 (by omega) (by decide), tN (by omega), c_11 hC k2, eq]
          rfl
        · rw [sw_in (iI_i h5 h6) g rfl]
          show z_R78 998 999999 50 0 _ _ _ = _
          rw [zq_78_50, hC.p1, hC.p2, hC.p3, hC.px (by decide) (by decide) l2 (by omega) (by decide), tN (by omega), c_12 hC k2, eq]
          rfl
        · rw [sw_in (iI_i h5 h6) g rfl]
          show z_R78 998 999999 60 0 _ _ _ = _
          have e1 := c_op hC (b := b) (by omega) 996 0 7 0 999999 none none none (by omega) (by omega)
          have e2 : z_R9 997 999999 4 0 [some (.ref 24), some (.int (iI b)), some (.int (nI 0)), some (.int (nI 0)), none, none, none] [] S = some (.inl (some (.int (iI (fb_ct (opc A b) 448 : Int)))), S) := e1
          have e3 := fb_ct_not (opn A b) (A 11 b).toNat
          rw [zq_78_60, hC.p1, hC.p2, hC.p3, hC.px (by decide) (by decide) l1 (by omega) (by decide), tN (by omega), c_11 hC k2, zx_9 997, e2, opc_p hw k2 (P := (A 11 b).toNat) (by omega), cli_i, iI_sub, eq]
          exact rs (by omega)
        · rw [sw_in (iI_i h5 h6) g rfl]
          show z_R78 998 999999 79 0 _ _ _ = _
          have e1 := c_si hC hw (b := b) (by omega) 996 0 8 0 999999 (by omega) (by omega)
          have e2 : z_R13 997 999999 4 0 [some (.ref 24), some (.int (iI b)), some (.int (nI 0)), some (.int (nI 0))] [] S = some (.inl (some (.int (iI (fb_ct (slp A b) 8 : Int)))), S) := e1
          rw [zq_78_79, zx_13 997, e2, cli_i, eq]
          rfl
        · rw [sw_in (iI_i h5 h6) g rfl]
          show z_R78 998 999999 88 0 _ _ _ = _
          rw [zq_78_88, ixN (by omega) (by decide), cond_true, tN (by omega), c_20 hC (by omega), eq]
          rfl
    · rw [rqB0 hC hw h3 h4 q2 997, clv_x, hnd_0, q_book, if_neg (by omega)]
      rfl
  · have h0 : MI A (z_w1 S2.1 70 1 (nI 0), S2.2) := h.code hw
    rw [zx_145 999]
    by_cases q2 : 0 ≤ b ∧ b < A 2 0
    · obtain ⟨b, rfl, k2⟩ := okB.n q2
      have hg := hw.pg k2
      rw [isB1 h0 hw k2 997, cli_i, if_neg n10, zq_145_19]
      by_cases g : w < 0 ∨ 4 < w
      · rw [sw_out (iI_i h5 h6) g]
        show z_R145 999 999998 89 0 _ _ _ = _
        rw [zq_145_89, zx_111 998, cli_i, z_w1_w1, q_book, if_neg (by omega)]
        rfl
      · have eq := q_book1 (A := A) (w := w) k2 (by omega) (by omega)
        have g2 : w = 0 ∨ w = 1 ∨ w = 2 ∨ w = 3 ∨ w = 4 := by omega
        rcases g2 with rfl | rfl | rfl | rfl | rfl
        · rw [sw_in (iI_i h5 h6) g rfl]
          show z_R145 999 999998 56 0 _ _ _ = _
          rw [zq_145_56, ixN (by omega) (by decide), cond_true, tN (by omega), m_11 h0 k2, eq]
          rfl
        · rw [sw_in (iI_i h5 h6) g rfl]
          show z_R145 999 999998 63 0 _ _ _ = _
          rw [zq_145_63, ixN (by omega) (by decide), cond_true, tN (by omega), m_12 h0 k2, eq]
          rfl
        · rw [sw_in (iI_i h5 h6) g rfl]
          show z_R145 999 999998 70 0 _ _ _ = _
          have e1 := m_op h0 hw k2 (P := (A 11 b).toNat) (by omega) 995 0 (A 11 b).toNat 0 999999 none none (by omega) (by omega) 0 rfl
          have e2 : z_R143 998 999999 4 0 [some (.ref 70), some (.int (iI b)), some (.int (nI 0)), some (.int (nI 1)), none, none] [] (z_w1 S2.1 70 1 (nI 0), S2.2) = _ := e1
          rw [zq_145_70, zx_143 998, e2, cli_i, eq]
          rfl
        · rw [sw_in (iI_i h5 h6) g rfl]
          show z_R145 999 999998 76 0 _ _ _ = _
          have e1 := m_si h0 hw (b := b) (R := (A 3 0).toNat) (by omega) (by omega) 997 0 (A 3 0).toNat 0 999999 (by omega) (by omega) 0 rfl
          have e2 : z_R144 998 999999 4 0 [some (.ref 70), some (.int (iI b)), some (.int (nI 0)), some (.int (nI 0))] [] (z_w1 S2.1 70 1 (nI 0), S2.2) = _ := e1
          rw [zq_145_76, zx_144 998, e2, slp_R hw (by omega), cli_i, eq]
          rfl
        · rw [sw_in (iI_i h5 h6) g rfl]
          show z_R145 999 999998 82 0 _ _ _ = _
          rw [zq_145_82, ixN (by omega) (by decide), cond_true, tN (by omega), m_20 h0 (by omega), eq]
          rfl
    · rw [isB0 h0 hw h3 h4 q2 997, cli_i, if_pos z00, zx_111 998, cli_i, z_w1_w1, q_book, if_neg (by omega)]
      rfl
end BOO
