/-! the hours of a loan, in the model and in the class -/
section LOA
variable {p : Nat} {A : aS} {S : z_St}
theorem m_hr {r b m0 : Nat} {h f u : Int} (h0 : 0 ≤ h) (h8 : h ≤ 8784) (d z : Nat) {P pc : Nat} (hP4 : P ≤ 400) (hpc : pc ≤ 60) : ∀ (k i n q : Nat) (A : aS) (S : z_St) (x5 : Option Value), i + k = pc → 3 * k + 4 ≤ n → q ≤ 400 → A 13 r = pc → A 11 b = P → wf A → (b : Int) < A 2 0 → (r : Int) < A 3 0 → MI A S → ∃ S' m' x9 x10, n ≤ m' + 3 * k + 4 ∧ z_R152 (d + 4) n 225 z [some (.ref 70), some (.int (iI (r : Int))), some (.int (iI (b : Int))), some (.int (iI f)), some (.int (iI u)), x5, some (.int (iI ((q + 1 : Nat) : Int))), some (.int (iI ((q : Nat) - (m0 : Int)))), some (.int (iI h)), some (.int (nI 1)), some (.int (iI (i : Int)))] [] S = z_R152 (d + 4) m' 296 z [some (.ref 70), some (.int (iI (r : Int))), some (.int (iI (b : Int))), some (.int (iI f)), some (.int (iI u)), none, some (.int (iI (((hrA r b h m0 k q A).1 + 1 : Nat) : Int))), some (.int (iI (((hrA r b h m0 k q A).1 : Nat) - (m0 : Int)))), some (.int (iI h)), x9, x10] [] S' ∧ MI (hrA r b h m0 k q A).2 S' ∧ fM S S' ∧ fL S S' := by
  intro k
  induction k with
  | zero =>
    intro i n q A S x5 hi hn hq h13 h11 hw hb hr hM
    obtain ⟨n, rfl⟩ : ∃ m, n = m + 1 := ⟨n - 1, by omega⟩
    have hr2 := hw.r
    refine ⟨S, n, some (.int (nI 1)), some (.int (iI (i : Int))), by omega, ?_, hM, fM.rf S, fL.rf S⟩
    rw [zq_152_225, ixN (by omega) (by decide), cond_true, tN (by omega), m_13 hM hr, h13, if_pos (by rw [iI_le (by omega) (by omega) (by omega) (by omega)]; omega)]
    rfl
  | succ k ih =>
    intro i n q A S x5 hi hn hq h13 h11 hw hb hr hM
    obtain ⟨n, rfl⟩ : ∃ m, n = m + 4 := ⟨n - 4, by omega⟩
    have hr2 := hw.r
    have hb2 := hw.b
    rw [zq_152_225, ixN (by omega) (by decide), cond_true, tN (by omega), m_13 hM hr, h13, if_neg (by rw [iI_le (by omega) (by omega) (by omega) (by omega)]; omega), if_neg (show ¬ nI 1 = 0 by decide +kernel), ixN (by omega) (by decide), cond_true, tN (by omega), m_11 hM hb, h11, hrA_s]
    by_cases g : A 11 b ≤ q
    · rw [if_pos (by rw [iI_lt (by omega) (by omega) (by omega) (by omega)]; omega), if_pos g]
      exact ⟨S, n + 3, _, _, by omega, rfl, hM, fM.rf S, fL.rf S⟩
    · obtain ⟨S1, g1, g2, g3, g3'⟩ := m_turn (t := h) hM hw hb hr (show (q : Int) < A 11 b by omega) d
      have w1 := wf_mk (h := h) hw hb hr (show (q : Int) < A 11 b by omega) h0 h8
      have k1 := kp_mk A b r q h
      have e2 := k1 2 0 (by decide) (by decide) (by decide)
      have e3 := k1 3 0 (by decide) (by decide) (by decide)
      have e11 := k1 11 b (by decide) (by decide) (by decide)
      have e13 := k1 13 r (by decide) (by decide) (by decide)
      obtain ⟨S2, g4, g5, g6, g6'⟩ := m_stop (m := (q + 1 : Nat) - (m0 : Int)) g2 w1 (r := r) (b := b) (g := ((q + 1 : Nat) : Int)) (h := h) (by omega) (by omega) (by omega) ⟨h0, h8⟩ (d + 2)
      have em : ((q : Nat) - (m0 : Int)) + ((1 : Nat) : Int) = (q + 1 : Nat) - (m0 : Int) := by omega
      have ea : ((q + 1 : Nat) : Int) + ((1 : Nat) : Int) = ((q + 1 + 1 : Nat) : Int) := by omega
      have eb : (i : Int) + ((1 : Nat) : Int) = ((i + 1 : Nat) : Int) := by omega
      rw [if_neg (by rw [iI_lt (by omega) (by omega) (by omega) (by omega)]; omega), g1, clv_v, show iI ((q : Nat) - (m0 : Int)) + nI 1 = iI ((q + 1 : Nat) - (m0 : Int)) by rw [iI_n, iI_add, em], g4, cli_i, if_neg g]
      have code : fL S S2 := g3'.tr g6'
      by_cases g7 : stp (mkA A b r q h) r b ((q + 1 : Nat) : Int) ((q + 1 : Nat) - (m0 : Int)) h = true
      · rw [if_pos g7, if_pos g7, if_neg n10, zq_152_284, zq_152_285, show iI ((q + 1 : Nat) : Int) + nI 1 = iI ((q + 1 + 1 : Nat) : Int) by rw [iI_n, iI_add, ea], show iI (i : Int) + nI 1 = iI ((i + 1 : Nat) : Int) by rw [iI_n, iI_add, eb], zq_152_225, ixN (by omega) (by decide), cond_true, tN (by omega), m_13 g5 (by omega), e13, h13]
        by_cases u1 : pc ≤ i + 1
        · rw [if_pos (by rw [iI_le (by omega) (by omega) (by omega) (by omega)]; omega)]
          exact ⟨S2, n, _, _, by omega, rfl, g5, g3.tr g6, code⟩
        · rw [if_neg (by rw [iI_le (by omega) (by omega) (by omega) (by omega)]; omega), if_pos nI_0]
          exact ⟨S2, n, _, _, by omega, rfl, g5, g3.tr g6, code⟩
      · obtain ⟨S3, m3, y9, y10, g8, g9, g10, g11, g12⟩ := ih (i + 1) (n + 2) (q + 1) (mkA A b r q h) S2 none (by omega) (by omega) (by omega) (by omega) (by omega) w1 (by omega) (by omega) g5
        rw [if_neg g7, if_neg g7, if_pos z00, zq_152_285, show iI ((q + 1 : Nat) : Int) + nI 1 = iI ((q + 1 + 1 : Nat) : Int) by rw [iI_n, iI_add, ea], show iI (i : Int) + nI 1 = iI ((i + 1 : Nat) : Int) by rw [iI_n, iI_add, eb]]
        exact ⟨S3, m3, y9, y10, by omega, g9, g10, (g3.tr g6).tr g11, code.tr g12⟩
theorem m_ln {r b m0 : Nat} {f u : Int} (d z : Nat) {P pc : Nat} (hP4 : P ≤ 400) (hpc : pc ≤ 60) (hf : 0 ≤ f ∧ 0 ≤ u ∧ f + u ≤ 8784) : ∀ (k n q : Nat) (h : Int) (A : aS) (S : z_St) (x5 x9 x10 : Option Value), h + k = f + u → 0 ≤ h → 190 * k + 4 ≤ n → q ≤ 400 → A 13 r = pc → A 11 b = P → wf A → (b : Int) < A 2 0 → (r : Int) < A 3 0 → MI A S → ∃ S' m', z_R152 (d + 4) n 210 z [some (.ref 70), some (.int (iI (r : Int))), some (.int (iI (b : Int))), some (.int (iI f)), some (.int (iI u)), x5, some (.int (iI ((q + 1 : Nat) : Int))), some (.int (iI ((q : Nat) - (m0 : Int)))), some (.int (iI h)), x9, x10] [] S = z_R152 (d + 4) (m' + 1) 302 z [some (.ref 70), some (.int (iI (r : Int))), some (.int (iI (b : Int))), some (.int (iI f)), some (.int (iI u)), none, some (.int (iI (((lnA r b m0 k h q A).1 + 1 : Nat) : Int))), some (.int (iI (((lnA r b m0 k h q A).1 : Nat) - (m0 : Int)))), some (.int (iI (f + u))), none, none] [] S' ∧ MI (lnA r b m0 k h q A).2 S' ∧ fM S S' ∧ fL S S' := by
  intro k
  induction k with
  | zero =>
    intro n q h A S x5 x9 x10 hh h0 hn hq h13 h11 hw hb hr hM
    obtain ⟨n, rfl⟩ : ∃ m, n = m + 2 := ⟨n - 2, by omega⟩
    have e : h = f + u := by omega
    subst e
    refine ⟨S, n, ?_, hM, fM.rf S, fL.rf S⟩
    rw [zq_152_210, iI_add, if_pos (by rw [iI_le (by omega) (by omega) (by omega) (by omega)]; omega)]
    rfl
  | succ k ih =>
    intro n q h A S x5 x9 x10 hh h0 hn hq h13 h11 hw hb hr hM
    obtain ⟨n, rfl⟩ : ∃ m, n = m + 190 := ⟨n - 190, by omega⟩
    rw [zq_152_210, iI_add, if_neg (by rw [iI_le (by omega) (by omega) (by omega) (by omega)]; omega), lnA_s]
    obtain ⟨a1, a2, a3, a4⟩ := hr_ok (r := r) (b := b) (m0 := m0) (h := h) h0 (by omega) (A 13 r).toNat q A hw hb hr hq
    have e2 := a2 2 0 (by decide) (by decide) (by decide)
    have e3 := a2 3 0 (by decide) (by decide) (by decide)
    have e11 := a2 11 b (by decide) (by decide) (by decide)
    have e13 := a2 13 r (by decide) (by decide) (by decide)
    have hpce : (A 13 r).toNat = pc := by omega
    rw [hpce] at a1 a2 a3 a4 e2 e3 e11 e13 ⊢
    obtain ⟨S1, m1, y9, y10, g1, g2, g3, g4, g5⟩ := m_hr (r := r) (b := b) (m0 := m0) (h := h) (f := f) (u := u) h0 (by omega) d z hP4 hpc pc 0 (n + 189) q A S none (by omega) (by omega) hq h13 h11 hw hb hr hM
    obtain ⟨m1, rfl⟩ : ∃ m, m1 = m + 1 := ⟨m1 - 1, by omega⟩
    have g2' : z_R152 (d + 4) (n + 189) 225 z [some (.ref 70), some (.int (iI (r : Int))), some (.int (iI (b : Int))), some (.int (iI f)), some (.int (iI u)), none, some (.int (iI ((q + 1 : Nat) : Int))), some (.int (iI ((q : Nat) - (m0 : Int)))), some (.int (iI h)), some (.int (nI 1)), some (.int (nI 0))] [] S = _ := g2
    obtain ⟨S2, m2, g6, g7, g8, g9⟩ := ih m1 (hrA r b h m0 pc q A).1 (h + 1) (hrA r b h m0 pc q A).2 S1 none none none (by omega) (by omega) (by omega) a4 (by omega) (by omega) a1 (by omega) (by omega) g3
    refine ⟨S2, m2, ?_, g7, g4.tr g8, g5.tr g9⟩
    rw [g2', zq_152_296, show iI h + nI 1 = iI (h + 1) by rw [iI_n, iI_add]; rfl]
    exact g6
theorem c_ln {r b m0 : Nat} {f u : Int} (d z : Nat) {P pc : Nat} (hP4 : P ≤ 400) (hpc : pc ≤ 60) (hf : 0 ≤ f ∧ 0 ≤ u ∧ f + u ≤ 8784) : ∀ (k n q : Nat) (h : Int) (A : aS) (S : z_St), h + k = f + u → 0 ≤ h → k + 2 ≤ n → q ≤ 400 → A 13 r = pc → A 11 b = P → wf A → (b : Int) < A 2 0 → (r : Int) < A 3 0 → CI p A S → ∃ S', z_R107 (d + 5) n 7 z [some (.ref 0), some (.int (iI (r : Int))), some (.int (iI (b : Int))), some (.int (iI ((m0 + 1 : Nat) : Int))), some (.int (iI f)), some (.int (iI u)), some (.int (iI ((q + 1 : Nat) : Int))), some (.int (iI h))] [] S = some (.inl (some (.int (iI (((lnA r b m0 k h q A).1 + 1 : Nat) : Int)))), S') ∧ CI p (lnA r b m0 k h q A).2 S' ∧ fC S S' := by
  intro k
  induction k with
  | zero =>
    intro n q h A S hh h0 hn hq h13 h11 hw hb hr hC
    obtain ⟨n, rfl⟩ : ∃ m, n = m + 2 := ⟨n - 2, by omega⟩
    refine ⟨S, ?_, hC, fC.rf S⟩
    rw [zq_107_7, iI_add, if_pos (by rw [iI_le (by omega) (by omega) (by omega) (by omega)]; omega), zq_107_36]
    rfl
  | succ k ih =>
    intro n q h A S hh h0 hn hq h13 h11 hw hb hr hC
    obtain ⟨n, rfl⟩ : ∃ m, n = m + 1 := ⟨n - 1, by omega⟩
    have hb2 := hw.b
    rw [zq_107_7, iI_add, if_neg (by rw [iI_le (by omega) (by omega) (by omega) (by omega)]; omega), lnA_s]
    obtain ⟨a1, a2, a3, a4⟩ := hr_ok (r := r) (b := b) (m0 := m0) (h := h) h0 (by omega) (A 13 r).toNat q A hw hb hr hq
    have e2 := a2 2 0 (by decide) (by decide) (by decide)
    have e3 := a2 3 0 (by decide) (by decide) (by decide)
    have e11 := a2 11 b (by decide) (by decide) (by decide)
    have e13 := a2 13 r (by decide) (by decide) (by decide)
    have hpce : (A 13 r).toNat = pc := by omega
    rw [hpce] at a1 a2 a3 a4 e2 e3 e11 e13 ⊢
    obtain ⟨S1, g1, g2, g3⟩ := c_hr (p := p) (r := r) (b := b) (m0 := m0) (h := h) h0 (by omega) d 0 hP4 hpc pc 0 999999 q A S (some (.int (iI ((q + 1 : Nat) : Int)))) (by omega) (by omega) hq h13 h11 hw hb hr hC
    have g1' : z_ew (d + 5) 108 [.ref 0, .int (iI (r : Int)), .int (iI (b : Int)), .int (iI ((m0 + 1 : Nat) : Int)), .int (iI ((q + 1 : Nat) : Int)), .int (iI h)] S = some (.inl (some (.int (iI (((hrA r b h m0 pc q A).1 + 1 : Nat) : Int)))), S1) := by
      rw [zx_108, cel, cli_i, hC.p1, hC.p2, hC.p3, hC.px (by decide) (by decide) hC.pl.1 (show b < 10 by omega) (by decide), tN (by omega), c_11 hC hb, h11]
      exact g1
    obtain ⟨S2, g6, g7, g8⟩ := ih n (hrA r b h m0 pc q A).1 (h + 1) (hrA r b h m0 pc q A).2 S1 (by omega) (by omega) (by omega) a4 (by omega) (by omega) a1 (by omega) (by omega) g2
    refine ⟨S2, ?_, g7, g3.tr g8⟩
    rw [g1', cli_i, show iI h + nI 1 = iI (h + 1) by rw [iI_n, iI_add]; rfl]
    exact g6
/-! where a loan begins -/
def bgn (A : aS) (r b : Nat) : Int := if A 22 (8 * b + r) = 0 then 1 else if A 22 (8 * b + r) = -1 then pbg (A 12 b) (mnI (A 23 (8 * b + r)) (A 11 b)) else mxI 1 (A 22 (8 * b + r) - A 15 r)
theorem mnI_or (a b : Int) : (mnI a b = a ∨ mnI a b = b) ∧ mnI a b ≤ a ∧ mnI a b ≤ b := by
  unfold mnI
  by_cases h : b < a
  · rw [if_pos h]; omega
  · rw [if_neg h]; omega
theorem mnI_c (a b : Int) : mnI a b = mnI b a := by
  unfold mnI
  by_cases h : b < a
  · rw [if_pos h, if_neg (by omega)]
  · rw [if_neg h]
    by_cases h2 : a < b
    · rw [if_pos h2]
    · rw [if_neg h2]; omega
theorem pbg_r {T g : Int} (hg : 1 ≤ g) : 1 ≤ pbg T g ∧ pbg T g ≤ g := by
  unfold pbg
  by_cases h : T < 1
  · rw [if_pos h]; omega
  · rw [if_neg h]
    have h1 := emod_r (a := g - 1) (T := T) (by omega)
    have h2 : (g - 1) % T ≤ g - 1 := by
      have := Int.ediv_nonneg (a := g - 1) (b := T) (by omega) (by omega)
      have h3 := Int.mul_ediv_add_emod (g - 1) T
      have h4 : 0 ≤ T * ((g - 1) / T) := Int.mul_nonneg (by omega) this
      omega
    omega
theorem bgn_r (hw : wf A) {r b : Nat} (hb : (b : Int) < A 2 0) (hr : (r : Int) < A 3 0) : 1 ≤ bgn A r b ∧ bgn A r b ≤ 401 := by
  have hb2 := hw.b
  have hr2 := hw.r
  have hcl := hw.cl (j := 8 * b + r) (by omega)
  have hpg := hw.pg hb
  have hrr := hw.rr hr
  unfold bgn
  by_cases g : A 22 (8 * b + r) = 0
  · rw [if_pos g]; omega
  · rw [if_neg g]
    by_cases g2 : A 22 (8 * b + r) = -1
    · rw [if_pos g2]
      have hm := mnI_or (A 23 (8 * b + r)) (A 11 b)
      have h23 : A 23 (8 * b + r) ≠ 0 := fun e => g (hcl.2.2.1.1 e)
      have := pbg_r (T := A 12 b) (g := mnI (A 23 (8 * b + r)) (A 11 b)) (by omega)
      omega
    · rw [if_neg g2]
      have h1 := mxI_ge 1 (A 22 (8 * b + r) - A 15 r)
      have h2 := mxI_or 1 (A 22 (8 * b + r) - A 15 r)
      omega
theorem c_begin (hC : CI p A S) (hw : wf A) {r b : Nat} (hb : (b : Int) < A 2 0) (hr : (r : Int) < A 3 0) (d : Nat) : z_ew (d + 2) 106 [.ref 0, .int (iI (r : Int)), .int (iI (b : Int))] S = some (.inl (some (.int (iI (bgn A r b)))), S) := by
  have hb2 := hw.b
  have hr2 := hw.r
  have hcl := hw.cl (j := 8 * b + r) (by omega)
  have hpg := hw.pg hb
  have hrr := hw.rr hr
  rw [zx_106, cel, cli_i, ixN (by omega) (by decide), cond_true, tN (by omega), c_23 hC (by omega) (by omega), iI_0]
  unfold bgn
  by_cases g : A 22 (8 * b + r) = 0
  · rw [if_pos (by rw [hcl.2.2.1.2 g]), if_pos g]
    rfl
  · have h23 : A 23 (8 * b + r) ≠ 0 := fun e => g (hcl.2.2.1.1 e)
    rw [if_neg (by rw [iI_eq (by omega) (by omega) (by decide) (by decide)]; exact h23), if_neg g, zq_106_20, ixN (by omega) (by decide), cond_true, tN (by omega), c_22 hC (by omega) (by omega), nm1]
    by_cases g2 : A 22 (8 * b + r) = -1
    · have hm := mnI_or (A 23 (8 * b + r)) (A 11 b)
      rw [if_pos (by rw [g2]), if_pos g2, zq_106_57, hC.p1, hC.p2, hC.p3, ixN (by omega) (by decide), hC.px (by decide) (by decide) hC.pl.1 (show b < 10 by omega) (by decide), tN (by omega), tN (by omega), c_11 hC hb, c_23 hC (by omega) (by omega), zy_188 d _ _ S (by omega) (by omega) (by omega) (by omega)]
      simp only [cond_false, cond_true, cli_i]
      rw [c_part hC hw hb (by omega) d, cli_i]
    · rw [if_neg (by rw [iI_eq (by omega) (by omega) (by decide) (by decide)]; exact g2), if_neg g2, hC.p1, hC.p2, hC.p3, hC.px (by decide) (by decide) hC.pl.2.2.2.2.1 (show r < 8 by omega) (by decide), tN (by omega), c_15 hC hr, iI_n 1, iI_sub, zy_187 d _ _ S (by decide) (by decide) (by omega) (by omega)]
      rfl
theorem m_begin (hM : MI A S) (hw : wf A) {r b : Nat} (hb : (b : Int) < A 2 0) (hr : (r : Int) < A 3 0) (d : Nat) : z_ew (d + 2) 151 [.ref 70, .int (iI (r : Int)), .int (iI (b : Int))] S = some (.inl (some (.int (iI (bgn A r b)))), S) := by
  have hb2 := hw.b
  have hr2 := hw.r
  have hcl := hw.cl (j := 8 * b + r) (by omega)
  have hpg := hw.pg hb
  have hpt := hw.pt hb
  have hrr := hw.rr hr
  rw [zx_151, pai, cli_i, ixN (by omega) (by decide), cond_true, tN (by omega), m_22 hM (by omega), nm1, iI_0]
  unfold bgn
  by_cases g2 : A 22 (8 * b + r) = -1
  · have hm := mnI_or (A 23 (8 * b + r)) (A 11 b)
    have h23 : A 23 (8 * b + r) ≠ 0 := fun e => by have := hcl.2.2.1.1 e; omega
    rw [if_pos (by rw [g2]), if_neg (by omega), if_pos g2, zq_151_37, ixN (by omega) (by decide), cond_true, pai, cli_i, ixN (by omega) (by decide), cond_true, tN (by omega), tN (by omega), m_11 hM hb, m_23 hM (by omega), zy_188 d _ _ S (by omega) (by omega) (by omega) (by omega), cli_i, mnI_c, cond_true, m_12 hM hb, iI_0]
    unfold pbg
    by_cases g3 : A 12 b = 0
    · rw [if_pos (by rw [g3]), zq_151_91, if_pos (by omega)]
      rfl
    · have h3 := Int.mul_ediv_add_emod (mnI (A 23 (8 * b + r)) (A 11 b) - 1) (A 12 b)
      have e1 : mnI (A 23 (8 * b + r)) (A 11 b) - ((1 : Nat) : Int) = mnI (A 23 (8 * b + r)) (A 11 b) - 1 := by omega
      have e2 : (mnI (A 23 (8 * b + r)) (A 11 b) - 1) / A 12 b * A 12 b + ((1 : Nat) : Int) = mnI (A 23 (8 * b + r)) (A 11 b) - (mnI (A 23 (8 * b + r)) (A 11 b) - 1) % A 12 b := by
        rw [Int.mul_comm ((mnI (A 23 (8 * b + r)) (A 11 b) - 1) / A 12 b)]
        omega
      rw [if_neg (by rw [iI_eq (by omega) (by omega) (by decide) (by decide)]; exact g3), zq_151_71, ixN (by omega) (by decide), cond_true, tN (by omega), m_12 hM hb, iI_0, if_neg (by rw [iI_eq (by omega) (by omega) (by decide) (by decide)]; exact g3), cond_true, zq_151_91, if_neg (by omega), iI_n 1, iI_sub, e1, iI_div (by omega) (by omega) (by omega) (by omega), iI_mul, iI_add, e2]
  · rw [if_neg (by rw [iI_eq (by omega) (by omega) (by decide) (by decide)]; exact g2)]
    by_cases g : A 22 (8 * b + r) = 0
    · rw [if_pos (by rw [g]), if_pos g, zq_151_36]
      rfl
    · rw [if_neg (by rw [iI_eq (by omega) (by omega) (by decide) (by decide)]; exact g), if_neg g, if_neg g2, zq_151_24, ixN (by omega) (by decide), cond_true, tN (by omega), m_15 hM hr, iI_n 1, iI_sub, zy_187 d _ _ S (by decide) (by decide) (by omega) (by omega), cli_i, zq_151_36]
      rfl
end LOA
