/-! look -/
section LOO
variable {p : Nat} {A : aS} {S : z_St}
theorem CI.inc {x0 n : Nat} {G : Nat → Bool} (h : CI p A S) (hw : wf A) (hx : x0 < 65) (h0 : 0 < cn x0) (h8 : x0 ≠ 8) (hd : ∀ y, dD (aU A x0 0 ((n + 1 : Nat) : Int)) y = if G y = true then n + 1 else dD A y) (hn : ∀ y, G y = true → dD A y = n) (hG : ∀ y, y < 65 → G y = true → y ≠ x0 ∧ n < cn y ∧ S.1 (ci p y) (cx y n) = iI (ce y (A y n))) : CI p (aU A x0 0 ((n + 1 : Nat) : Int)) (z_w1 S.1 (ci p x0) (cx x0 0) (iI (ce x0 ((n + 1 : Nat) : Int))), S.2) := by
  refine h.wg hw hx h0 h8 (fun y hy k hk => ?_)
  rw [hd] at hk
  by_cases q : G y = true
  · rw [if_pos q] at hk
    obtain ⟨g1, g2, g3⟩ := hG y hy q
    by_cases q2 : k = n
    · subst q2
      refine Or.inr ?_
      rw [z_w1_r, if_neg (fun e => g1 (c_inj h.1 hy hx g2 h0 e.1 e.2).1), aU_r, if_neg (fun e => g1 e.1)]
      exact g3
    · exact Or.inl (by rw [hn y q]; omega)
  · rw [if_neg q] at hk
    exact Or.inl hk
theorem MI.inc {x0 n : Nat} {G : Nat → Bool} (h : MI A S) (hw : wf A) (hx : x0 < 67) (h0 : 0 < mn x0) (h9 : x0 ≠ 9) (hd : ∀ y, mD (aU A x0 0 ((n + 1 : Nat) : Int)) y = if G y = true then n + 1 else mD A y) (hn : ∀ y, G y = true → mD A y = n) (hG : ∀ y, y < 67 → G y = true → y ≠ x0 ∧ n < mn y ∧ S.1 (mi y) (mx y n) = iI (A y n)) : MI (aU A x0 0 ((n + 1 : Nat) : Int)) (z_w1 S.1 (mi x0) (mx x0 0) (iI ((n + 1 : Nat) : Int)), S.2) := by
  refine h.wg hw hx h0 h9 (fun y hy k hk => ?_)
  rw [hd] at hk
  by_cases q : G y = true
  · rw [if_pos q] at hk
    obtain ⟨g1, g2, g3⟩ := hG y hy q
    by_cases q2 : k = n
    · subst q2
      refine Or.inr ?_
      rw [z_w1_r, if_neg (fun e => g1 (m_inj hy hx g2 h0 e.1 e.2).1), aU_r, if_neg (fun e => g1 e.1)]
      exact g3
    · exact Or.inl (by rw [hn y q]; omega)
  · rw [if_neg q] at hk
    exact Or.inl hk
def g6 (y : Nat) : Bool := decide (32 ≤ y ∧ y < 36)
theorem dD_6 {v : Int} (y : Nat) : dD (aU A 6 0 v) y = if g6 y = true then v.toNat else dD A y := by
  unfold g6
  by_cases h : 32 ≤ y ∧ y < 36
  · rw [if_pos (decide_eq_true h)]
    have h2 : y = 32 ∨ y = 33 ∨ y = 34 ∨ y = 35 := by omega
    rcases h2 with rfl | rfl | rfl | rfl <;> rfl
  · rw [if_neg (by simpa using h)]
    by_cases h1 : y < 32
    · unfold dD; simp [aU_r, h1]
    · have h2 : ¬ y < 36 := by omega
      unfold dD; simp [aU_r, h1, h2]
theorem mD_6 {v : Int} (y : Nat) : mD (aU A 6 0 v) y = if g6 y = true then v.toNat else mD A y := by
  unfold mD
  rw [dD_6]
  by_cases h : g6 y = true
  · have h2 : 32 ≤ y ∧ y < 36 := by simpa [g6] using h
    rw [if_pos h, if_pos h, if_neg (by omega)]
  · rw [if_neg h, if_neg h]
def lct (A : aS) (b : Int) (n : Nat) : Nat := fb_ct (fun i => decide (A 32 i = b)) n
theorem wf.k {A : aS} (h : wf A) : 0 ≤ A 6 0 ∧ A 6 0 ≤ 24 := h.L.2.2.1
theorem wf.lc {A : aS} (h : wf A) (b : Int) : lct A b (A 6 0).toNat ≤ 6 := h.L.2.2.2.2.2.2.2.2.2.2.2.1 b
theorem wf.lr {A : aS} (h : wf A) {i : Nat} (hi : (i : Int) < A 6 0) : (0 ≤ A 32 i ∧ A 32 i < A 2 0) ∧ (0 ≤ A 33 i ∧ A 33 i ≤ 8759) ∧ (0 ≤ A 34 i ∧ A 34 i ≤ 3) ∧ 1 ≤ A 35 i ∧ A 35 i ≤ 401 := h.L.2.2.2.2.2.2.2.2.2.2.1 i hi
theorem wf_32 {n : Nat} {v : Int} (h : wf A) (hn : A 6 0 = n) {x : Nat} (hx : x = 32 ∨ x = 33 ∨ x = 34 ∨ x = 35) : wf (aU A x n v) := by
  obtain ⟨g1, ⟨a1, a2, a3, a4, a5, a6, a7, a8, a9, a10, a11, a12, a13, a14⟩, g3⟩ := h
  have key : ∀ (y i : Nat), (i : Int) < A 6 0 → aU A x n v y i = A y i := fun y i hi => by rw [aU_r, if_neg (by omega)]
  have hq : LW A (aU A x n v) := by
    rcases hx with rfl | rfl | rfl | rfl
    · refine ⟨a1, a2, a3, a4, a5, a6, a7, a8, a9, a10, fun i hi => ?_, fun b => ?_, a13, a14⟩
      · have hi : (i : Int) < A 6 0 := hi
        rw [key 32 i hi, key 33 i hi, key 34 i hi, key 35 i hi]
        exact a11 i hi
      · have e : fb_ct (fun i => decide (aU A 32 n v 32 i = b)) (A 6 0).toNat = fb_ct (fun i => decide (A 32 i = b)) (A 6 0).toNat := fb_ct_cong (fun k hk => by rw [key 32 k (by omega)])
        show fb_ct (fun i => decide (aU A 32 n v 32 i = b)) (A 6 0).toNat ≤ 6
        rw [e]
        exact a12 b
    · refine ⟨a1, a2, a3, a4, a5, a6, a7, a8, a9, a10, fun i hi => ?_, a12, a13, a14⟩
      have hi : (i : Int) < A 6 0 := hi
      rw [key 32 i hi, key 33 i hi, key 34 i hi, key 35 i hi]
      exact a11 i hi
    · refine ⟨a1, a2, a3, a4, a5, a6, a7, a8, a9, a10, fun i hi => ?_, a12, a13, a14⟩
      have hi : (i : Int) < A 6 0 := hi
      rw [key 32 i hi, key 33 i hi, key 34 i hi, key 35 i hi]
      exact a11 i hi
    · refine ⟨a1, a2, a3, a4, a5, a6, a7, a8, a9, a10, fun i hi => ?_, a12, a13, a14⟩
      have hi : (i : Int) < A 6 0 := hi
      rw [key 32 i hi, key 33 i hi, key 34 i hi, key 35 i hi]
      exact a11 i hi
  rcases hx with rfl | rfl | rfl | rfl
  · exact ⟨g1, hq, g3⟩
  · exact ⟨g1, hq, g3⟩
  · exact ⟨g1, hq, g3⟩
  · exact ⟨g1, hq, g3⟩
theorem wf_6 {n : Nat} (h : wf A) (hn : A 6 0 = n) (h7 : n < 24) (hr : (0 ≤ A 32 n ∧ A 32 n < A 2 0) ∧ (0 ≤ A 33 n ∧ A 33 n ≤ 8759) ∧ (0 ≤ A 34 n ∧ A 34 n ≤ 3) ∧ 1 ≤ A 35 n ∧ A 35 n ≤ 401) (hc : lct A (A 32 n) n < 6) : wf (aU A 6 0 ((n + 1 : Nat) : Int)) := by
  obtain ⟨g1, ⟨a1, a2, a3, a4, a5, a6, a7, a8, a9, a10, a11, a12, a13, a14⟩, g3⟩ := h
  refine ⟨g1, ⟨a1, a2, ?_, a4, a5, a6, a7, a8, a9, a10, fun i hi => ?_, fun b => ?_, a13, a14⟩, g3⟩
  · show 0 ≤ ((n + 1 : Nat) : Int) ∧ ((n + 1 : Nat) : Int) ≤ 24
    omega
  · have hi : (i : Int) < ((n + 1 : Nat) : Int) := hi
    show (0 ≤ A 32 i ∧ A 32 i < A 2 0) ∧ (0 ≤ A 33 i ∧ A 33 i ≤ 8759) ∧ (0 ≤ A 34 i ∧ A 34 i ≤ 3) ∧ 1 ≤ A 35 i ∧ A 35 i ≤ 401
    by_cases q : i = n
    · subst q; exact hr
    · exact a11 i (by omega)
  · show fb_ct (fun i => decide (A 32 i = b)) (n + 1) ≤ 6
    have h12 := a12 b
    rw [hn, Int.toNat_natCast] at h12
    rw [fb_ct_succ]
    by_cases q : A 32 n = b
    · subst q
      have hc : fb_ct (fun i => decide (A 32 i = A 32 n)) n < 6 := hc
      simp only [decide_true, if_true]
      omega
    · simp only [q, decide_false]
      simpa using h12
theorem c_lk (h : CI p A S) {i w : Nat} (hi : (i : Int) < A 6 0) (hw : w < 4) : S.1 33 (i * 4 + w) = iI (A (32 + w) i) := by
  have hw2 : w = 0 ∨ w = 1 ∨ w = 2 ∨ w = 3 := by omega
  rw [Nat.mul_comm]
  rcases hw2 with rfl | rfl | rfl | rfl
  · exact c_32 h hi
  · exact c_33 h hi
  · exact c_34 h hi
  · exact c_35 h hi
theorem c_lB (h : CI p A S) (hw : wf A) {i : Nat} (hi : (i : Int) < A 6 0) (d : Nat) : z_ew (d + 1) 17 [.ref 24, .int (iI i)] S = some (.inl (some (.int (iI (A 32 i)))), S) := by
  have hk := hw.k
  rw [zx_17, iI_n, iI_mul]
  have e : (i : Int) * ((4 : Nat) : Int) = ((i * 4 + 0 : Nat) : Int) := by omega
  rw [e, ixN (by omega) (by decide), cond_true, tN (by omega), c_lk h hi (by decide)]
theorem c_lI (h : CI p A S) (hw : wf A) (b : Nat) (hb : b < 10) (d z N : Nat) (hN : A 6 0 = N) : ∀ (j i n : Nat), i + j = N → 2 * j + 2 ≤ n → z_R16 (d + 1) n 4 z [some (.ref 24), some (.int (iI b)), some (.int (iI (lct A b i : Int))), some (.int (iI i))] [] S = some (.inl (some (.int (iI (lct A b N : Int)))), S) := by
  have hk := hw.k
  intro j
  induction j with
  | zero =>
    intro i n hi hn
    obtain ⟨n, rfl⟩ : ∃ m, n = m + 2 := ⟨n - 2, by omega⟩
    have e : i = N := by omega
    subst e
    rw [zq_16_4, c_6 h, hN, if_pos (by rw [iI_le (by omega) (by omega) (by omega) (by omega)]; omega), zq_16_30]
  | succ j ih =>
    intro i n hi hn
    obtain ⟨n, rfl⟩ : ∃ m, n = m + 2 := ⟨n - 2, by omega⟩
    have hr := hw.lr (i := i) (by omega)
    have hb2 := hw.b
    have hl : lct A b i ≤ i := fb_ct_le _ _
    rw [zq_16_4, c_6 h, hN, if_neg (by rw [iI_le (by omega) (by omega) (by omega) (by omega)]; omega), c_lB h hw (by omega), cli_i]
    by_cases q : A 32 i = b
    · rw [if_pos (by rw [q]), zq_16_24, iI_n, iI_add, iI_add]
      have e1 : (lct A b i : Int) + ((1 : Nat) : Int) = (lct A b (i + 1) : Int) := by
        have : lct A b (i + 1) = lct A b i + 1 := by
          show fb_ct _ (i + 1) = _
          rw [fb_ct_succ]
          simp [q, lct]
        omega
      have e2 : (i : Int) + ((1 : Nat) : Int) = ((i + 1 : Nat) : Int) := by omega
      rw [e1, e2]
      exact ih (i + 1) n (by omega) (by omega)
    · rw [if_neg (by rw [iI_eq (by omega) (by omega) (by omega) (by omega)]; exact q), zq_16_24, iI_n, iI_add]
      have e1 : lct A b i = lct A b (i + 1) := by
        show _ = fb_ct _ (i + 1)
        rw [fb_ct_succ]
        simp [q, lct]
      have e2 : (i : Int) + ((1 : Nat) : Int) = ((i + 1 : Nat) : Int) := by omega
      rw [e1, e2]
      exact ih (i + 1) n (by omega) (by omega)
theorem c_looksIn (h : CI p A S) (hw : wf A) (b : Nat) (hb : b < 10) (d : Nat) : z_ew (d + 2) 16 [.ref 24, .int (iI b)] S = some (.inl (some (.int (iI (lct A b (A 6 0).toNat : Int)))), S) := by
  have hk := hw.k
  rw [zx_16]
  exact c_lI h hw b hb d 0 (A 6 0).toNat (by omega) (A 6 0).toNat 0 999999 (by omega) (by omega)
theorem m_lI (h : MI A S) (hw : wf A) (b : Nat) (hb : b < 10) (d z N : Nat) (hN : A 6 0 = N) : ∀ (j i n : Nat), i + j = N → 3 * j + 2 ≤ n → z_R160 d n 4 z [some (.ref 70), some (.int (iI b)), some (.int (iI (lct A b i : Int))), some (.int (iI i))] [] S = some (.inl (some (.int (iI (lct A b N : Int)))), S) := by
  have hk := hw.k
  intro j
  induction j with
  | zero =>
    intro i n hi hn
    obtain ⟨n, rfl⟩ : ∃ m, n = m + 2 := ⟨n - 2, by omega⟩
    have e : i = N := by omega
    subst e
    rw [zq_160_4, m_6 h, hN, if_pos (by rw [iI_le (by omega) (by omega) (by omega) (by omega)]; omega), zq_160_36]
  | succ j ih =>
    intro i n hi hn
    obtain ⟨n, rfl⟩ : ∃ m, n = m + 3 := ⟨n - 3, by omega⟩
    have hr := hw.lr (i := i) (by omega)
    have hb2 := hw.b
    have hl : lct A b i ≤ i := fb_ct_le _ _
    rw [zq_160_4, m_6 h, hN, if_neg (by rw [iI_le (by omega) (by omega) (by omega) (by omega)]; omega), ixN (by omega) (by decide), cond_true, tN (by omega), m_32 h (by omega)]
    have e2 : (i : Int) + ((1 : Nat) : Int) = ((i + 1 : Nat) : Int) := by omega
    by_cases q : A 32 i = b
    · rw [if_pos (by rw [q]), zq_160_28, iI_n, iI_add, iI_add]
      have e1 : (lct A b i : Int) + ((1 : Nat) : Int) = (lct A b (i + 1) : Int) := by
        have : lct A b (i + 1) = lct A b i + 1 := by
          show fb_ct _ (i + 1) = _
          rw [fb_ct_succ]
          simp [q, lct]
        omega
      rw [e1, e2]
      exact ih (i + 1) (n + 1) (by omega) (by omega)
    · rw [if_neg (by rw [iI_eq (by omega) (by omega) (by omega) (by omega)]; exact q), zq_160_27, zq_160_28, iI_n, iI_n, iI_add, iI_add]
      have e1 : (lct A b i : Int) + ((0 : Nat) : Int) = (lct A b (i + 1) : Int) := by
        have : lct A b (i + 1) = lct A b i := by
          show fb_ct _ (i + 1) = _
          rw [fb_ct_succ]
          simp [q, lct]
        omega
      rw [e1, e2]
      exact ih (i + 1) n (by omega) (by omega)
theorem m_looksOf (h : MI A S) (hw : wf A) (b : Nat) (hb : b < 10) (d : Nat) : z_ew (d + 1) 160 [.ref 70, .int (iI b)] S = some (.inl (some (.int (iI (lct A b (A 6 0).toNat : Int)))), S) := by
  have hk := hw.k
  rw [zx_160]
  exact m_lI h hw b hb d 0 (A 6 0).toNat (by omega) (A 6 0).toNat 0 999999 (by omega) (by omega)
def aL (A : aS) (n : Nat) (b t c g : Int) : aS := aU (aU (aU (aU (aU A 32 n b) 33 n t) 34 n c) 35 n g) 6 0 ((n + 1 : Nat) : Int)
theorem aL_r (A : aS) (n : Nat) (b t c g : Int) : aU (aU (aU (aU A 32 n b) 33 n t) 34 n c) 35 n g 32 n = b ∧ aU (aU (aU (aU A 32 n b) 33 n t) 34 n c) 35 n g 33 n = t ∧ aU (aU (aU (aU A 32 n b) 33 n t) 34 n c) 35 n g 34 n = c ∧ aU (aU (aU (aU A 32 n b) 33 n t) 34 n c) 35 n g 35 n = g := by
  refine ⟨?_, ?_, ?_, ?_⟩ <;> simp [aU_r]
theorem c_addL (h : CI p A S) (hw : wf A) {n : Nat} (hn : A 6 0 = n) (h7 : n < 24) (b t c g : Int) : CI p (aL A n b t c g) (z_w1 (z_w1 (z_w1 (z_w1 (z_w1 S.1 33 (n * 4) (iI b)) 33 (n * 4 + 1) (iI t)) 33 (n * 4 + 2) (iI c)) 33 (n * 4 + 3) (iI g)) 24 10 (iI ((n + 1 : Nat) : Int)), S.2) := by
  have hx : ∀ f, f < 4 → cx (32 + f) n = n * 4 + f := by
    intro f hf
    have hf2 : f = 0 ∨ f = 1 ∨ f = 2 ∨ f = 3 := by omega
    rcases hf2 with rfl | rfl | rfl | rfl
    · show 0 + 4 * n = _; omega
    · show 1 + 4 * n = _; omega
    · show 2 + 4 * n = _; omega
    · show 3 + 4 * n = _; omega
  have x0 := hx 0 (by decide)
  have x1 := hx 1 (by decide)
  have x2 := hx 2 (by decide)
  have x3 := hx 3 (by decide)
  have e0 := h.w (x := 32) (j := n) (v := b) hw (by decide) (show n < 24 from h7) (by decide) (dD_u (by decide))
  have w0 := wf_32 (v := b) hw hn (x := 32) (by decide)
  have e1 := e0.w (x := 33) (j := n) (v := t) w0 (by decide) (show n < 24 from h7) (by decide) (dD_u (by decide))
  have w1 := wf_32 (v := t) w0 hn (x := 33) (by decide)
  have e2 := e1.w (x := 34) (j := n) (v := c) w1 (by decide) (show n < 24 from h7) (by decide) (dD_u (by decide))
  have w2 := wf_32 (v := c) w1 hn (x := 34) (by decide)
  have e3 := e2.w (x := 35) (j := n) (v := g) w2 (by decide) (show n < 24 from h7) (by decide) (dD_u (by decide))
  have w3 := wf_32 (v := g) w2 hn (x := 35) (by decide)
  rw [show cx 32 n = n * 4 from x0, show cx 33 n = n * 4 + 1 from x1, show cx 34 n = n * 4 + 2 from x2, show cx 35 n = n * 4 + 3 from x3] at e3
  obtain ⟨r0, r1, r2, r3⟩ := aL_r A n b t c g
  have e4 := e3.inc (x0 := 6) (n := n) (G := g6) w3 (by decide) (by decide) (by decide) (fun y => dD_6 y) (fun y hy => by
    have h2 : y = 32 ∨ y = 33 ∨ y = 34 ∨ y = 35 := by
      have : 32 ≤ y ∧ y < 36 := by simpa [g6] using hy
      omega
    have e9 : (A 6 0).toNat = n := by omega
    rcases h2 with rfl | rfl | rfl | rfl <;> exact e9) (fun y hy hq => by
    have h2 : y = 32 ∨ y = 33 ∨ y = 34 ∨ y = 35 := by
      have : 32 ≤ y ∧ y < 36 := by simpa [g6] using hq
      omega
    rcases h2 with rfl | rfl | rfl | rfl
    · refine ⟨by decide, show n < 24 from h7, ?_⟩
      rw [r0, show cx 32 n = n * 4 from x0]
      show z_w1 (z_w1 (z_w1 (z_w1 S.1 33 (n * 4) (iI b)) 33 (n * 4 + 1) (iI t)) 33 (n * 4 + 2) (iI c)) 33 (n * 4 + 3) (iI g) 33 (n * 4) = iI b
      rw [z_w1_r, if_neg (by omega), z_w1_r, if_neg (by omega), z_w1_r, if_neg (by omega), z_w1_r, if_pos ⟨rfl, rfl⟩]
    · refine ⟨by decide, show n < 24 from h7, ?_⟩
      rw [r1, show cx 33 n = n * 4 + 1 from x1]
      show z_w1 (z_w1 (z_w1 (z_w1 S.1 33 (n * 4) (iI b)) 33 (n * 4 + 1) (iI t)) 33 (n * 4 + 2) (iI c)) 33 (n * 4 + 3) (iI g) 33 (n * 4 + 1) = iI t
      rw [z_w1_r, if_neg (by omega), z_w1_r, if_neg (by omega), z_w1_r, if_pos ⟨rfl, rfl⟩]
    · refine ⟨by decide, show n < 24 from h7, ?_⟩
      rw [r2, show cx 34 n = n * 4 + 2 from x2]
      show z_w1 (z_w1 (z_w1 (z_w1 S.1 33 (n * 4) (iI b)) 33 (n * 4 + 1) (iI t)) 33 (n * 4 + 2) (iI c)) 33 (n * 4 + 3) (iI g) 33 (n * 4 + 2) = iI c
      rw [z_w1_r, if_neg (by omega), z_w1_r, if_pos ⟨rfl, rfl⟩]
    · refine ⟨by decide, show n < 24 from h7, ?_⟩
      rw [r3, show cx 35 n = n * 4 + 3 from x3]
      show z_w1 (z_w1 (z_w1 (z_w1 S.1 33 (n * 4) (iI b)) 33 (n * 4 + 1) (iI t)) 33 (n * 4 + 2) (iI c)) 33 (n * 4 + 3) (iI g) 33 (n * 4 + 3) = iI g
      rw [z_w1_r, if_pos ⟨rfl, rfl⟩])
  exact e4
theorem m_addL (h : MI A S) (hw : wf A) {n : Nat} (hn : A 6 0 = n) (h7 : n < 24) (b t c g : Int) : MI (aL A n b t c g) (z_w1 (z_w1 (z_w1 (z_w1 (z_w1 S.1 97 n (iI b)) 98 n (iI t)) 99 n (iI c)) 100 n (iI g)) 70 44 (iI ((n + 1 : Nat) : Int)), S.2) := by
  have x0 : mx 32 n = n := by show 0 + 1 * n = _; omega
  have x1 : mx 33 n = n := by show 0 + 1 * n = _; omega
  have x2 : mx 34 n = n := by show 0 + 1 * n = _; omega
  have x3 : mx 35 n = n := by show 0 + 1 * n = _; omega
  have e0 := h.w (x := 32) (j := n) (v := b) hw (by decide) (show n < 24 from h7) (by decide) (dD_u (by decide))
  have w0 := wf_32 (v := b) hw hn (x := 32) (by decide)
  have e1 := e0.w (x := 33) (j := n) (v := t) w0 (by decide) (show n < 24 from h7) (by decide) (dD_u (by decide))
  have w1 := wf_32 (v := t) w0 hn (x := 33) (by decide)
  have e2 := e1.w (x := 34) (j := n) (v := c) w1 (by decide) (show n < 24 from h7) (by decide) (dD_u (by decide))
  have w2 := wf_32 (v := c) w1 hn (x := 34) (by decide)
  have e3 := e2.w (x := 35) (j := n) (v := g) w2 (by decide) (show n < 24 from h7) (by decide) (dD_u (by decide))
  have w3 := wf_32 (v := g) w2 hn (x := 35) (by decide)
  rw [x0, x1, x2, x3] at e3
  obtain ⟨r0, r1, r2, r3⟩ := aL_r A n b t c g
  have e4 := e3.inc (x0 := 6) (n := n) (G := g6) w3 (by decide) (by decide) (by decide) (fun y => mD_6 y) (fun y hy => by
    have h2 : y = 32 ∨ y = 33 ∨ y = 34 ∨ y = 35 := by
      have : 32 ≤ y ∧ y < 36 := by simpa [g6] using hy
      omega
    have e9 : (A 6 0).toNat = n := by omega
    rcases h2 with rfl | rfl | rfl | rfl <;> exact e9) (fun y hy hq => by
    have h2 : y = 32 ∨ y = 33 ∨ y = 34 ∨ y = 35 := by
      have : 32 ≤ y ∧ y < 36 := by simpa [g6] using hq
      omega
    rcases h2 with rfl | rfl | rfl | rfl
    · refine ⟨by decide, show n < 24 from h7, ?_⟩
      rw [r0, x0]
      show z_w1 (z_w1 (z_w1 (z_w1 S.1 97 n (iI b)) 98 n (iI t)) 99 n (iI c)) 100 n (iI g) 97 n = iI b
      rw [z_w1_r, if_neg (by omega), z_w1_r, if_neg (by omega), z_w1_r, if_neg (by omega), z_w1_r, if_pos ⟨rfl, rfl⟩]
    · refine ⟨by decide, show n < 24 from h7, ?_⟩
      rw [r1, x1]
      show z_w1 (z_w1 (z_w1 (z_w1 S.1 97 n (iI b)) 98 n (iI t)) 99 n (iI c)) 100 n (iI g) 98 n = iI t
      rw [z_w1_r, if_neg (by omega), z_w1_r, if_neg (by omega), z_w1_r, if_pos ⟨rfl, rfl⟩]
    · refine ⟨by decide, show n < 24 from h7, ?_⟩
      rw [r2, x2]
      show z_w1 (z_w1 (z_w1 (z_w1 S.1 97 n (iI b)) 98 n (iI t)) 99 n (iI c)) 100 n (iI g) 99 n = iI c
      rw [z_w1_r, if_neg (by omega), z_w1_r, if_pos ⟨rfl, rfl⟩]
    · refine ⟨by decide, show n < 24 from h7, ?_⟩
      rw [r3, x3]
      show z_w1 (z_w1 (z_w1 (z_w1 S.1 97 n (iI b)) 98 n (iI t)) 99 n (iI c)) 100 n (iI g) 100 n = iI g
      rw [z_w1_r, if_pos ⟨rfl, rfl⟩])
  exact e4
end LOO
